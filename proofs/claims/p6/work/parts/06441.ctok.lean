/-! the class: pointers that stay, the tape, tokens -/
def cPL : List (Nat × Nat × Int) := [(1, 0, 3), (1, 1, 2), (1, 2, 80), (3, 0, 4), (3, 1, 6), (3, 2, 7), (3, 3, 8), (3, 4, 9), (4, 0, 5), (7, 0, 20), (7, 1, 30), (8, 0, 40), (8, 1, 50), (9, 0, 60), (9, 1, 70),
  (80, 0, 90), (80, 1, 100), (80, 2, 110), (80, 5, 120), (80, 6, 121),
  (90, 5, 91), (90, 7, 92), (90, 8, 93), (90, 9, 94), (90, 11, 95), (90, 12, 96), (90, 13, 97), (100, 1, 101), (100, 2, 102), (110, 1, 111), (110, 2, 112), (110, 4, 113), (110, 5, 114),
  (20, 5, 21), (20, 7, 22), (20, 8, 23), (20, 9, 24), (20, 11, 25), (20, 12, 26), (20, 13, 27), (30, 5, 31), (30, 7, 32), (30, 8, 33), (30, 9, 34), (30, 11, 35), (30, 12, 36), (30, 13, 37),
  (40, 1, 41), (40, 2, 42), (50, 1, 51), (50, 2, 52), (60, 1, 61), (60, 2, 62), (60, 4, 63), (60, 5, 64), (70, 1, 71), (70, 2, 72), (70, 4, 73), (70, 5, 74)]
def cF (a j : Nat) : Bool := cPL.any (fun p => p.1 == a && p.2.1 == j)
def cP (h : yH) : Prop := ∀ p ∈ cPL, h p.1 p.2.1 = p.2.2
theorem cP.p {h : yH} (hc : cP h) {a j : Nat} {v : Int} (hm : (a, j, v) ∈ cPL) : h a j = v := hc _ hm
theorem cP.fr {h h2 : yH} (hc : cP h) (hf : ∀ a j, cF a j = true → h2 a j = h a j) : cP h2 := by
  intro p hp
  rw [hf p.1 p.2.1 (List.any_eq_true.mpr ⟨p, hp, by simp⟩)]
  exact hc p hp
theorem cP.up {h : yH} (hc : cP h) {a j : Nat} {x : Int} (hn : cF a j = false) : cP (zup h a j x) := by
  refine hc.fr (fun b i hb => zup_ne (fun w => ?_))
  rw [w.1, w.2, hn] at hb
  cases hb
/-- a text is read: the tape's bytes -/
def cC (u : Nat → Int) (N : Nat) (h : yH) : Prop := h 4 1 = (N : Int) ∧ N ≤ 600 ∧ (∀ i, i < N → yari 7 (h 5 i) 255 = u i) ∧ cP h
theorem cC.b {u : Nat → Int} {N : Nat} {h : yH} (hc : cC u N h) {i : Nat} (hi : i < N) : 0 ≤ u i ∧ u i ≤ 255 := by
  rw [← hc.2.2.1 i hi]
  exact y_and255 _
theorem cC.up {u : Nat → Int} {N : Nat} {h : yH} (hc : cC u N h) {a j : Nat} {x : Int} (h4 : ¬ (a = 4 ∧ j = 1)) (h5 : a ≠ 5) (hn : cF a j = false) : cC u N (zup h a j x) := by
  obtain ⟨e1, e2, e3, e4⟩ := hc
  refine ⟨by rw [zup_ne (by omega)]; exact e1, e2, fun i hi => by rw [zup_ne (by omega)]; exact e3 i hi, e4.up hn⟩
theorem cC.fr {u : Nat → Int} {N : Nat} {h h2 : yH} (hc : cC u N h) (h4 : h2 4 1 = h 4 1) (h5 : ∀ i, h2 5 i = h 5 i) (hn : ∀ a j, cF a j = true → h2 a j = h a j) : cC u N h2 := by
  obtain ⟨e1, e2, e3, e4⟩ := hc
  exact ⟨by rw [h4]; exact e1, e2, fun i hi => by rw [h5]; exact e3 i hi, e4.fr hn⟩
theorem byteAt_lt {u : Nat → Int} {N n i : Nat} {h : yH} (hc : cC u N h) (hi : i < N) : f_X8_byteAt n [4, (i : Int)] h = some (u i, h) := by
  obtain ⟨e1, e2, e3, e4⟩ := hc
  rw [e_X8_byteAt, if_neg (by omega), e1, if_pos (by omega), xg_pos (e4.p (by decide)), xg_pos (by omega), Int.toNat_natCast, e3 i hi]
theorem byteAt_ge {u : Nat → Int} {N n i : Nat} {h : yH} (hc : cC u N h) (hi : ¬ i < N) : f_X8_byteAt n [4, (i : Int)] h = some (0, h) := by
  obtain ⟨e1, e2, e3, e4⟩ := hc
  rw [e_X8_byteAt, if_neg (by omega), e1, if_neg (by omega)]
theorem isBlank_e {n : Nat} {c : Int} {h : yH} : f_X4_isBlank n [c] h = some (if tB c = true then 1 else 0, h) := by
  rw [e_X4_isBlank]
  by_cases h1 : c = 10
  · rw [if_pos h1, if_pos (tB_i.mpr (Or.inl h1))]
  · rw [if_neg h1]
    by_cases h2 : c = 32
    · rw [if_pos h2, if_pos (tB_i.mpr (Or.inr h2))]
    · rw [if_neg h2, if_neg (fun w => by have := tB_i.mp w; omega)]
theorem isLetter_e {n : Nat} {c : Int} {h : yH} : f_X4_isLetter n [c] h = some (if tL c = true then 1 else 0, h) := by
  rw [e_X4_isLetter]
  by_cases h1 : c < 97
  · rw [if_pos h1, if_neg (fun w => by have := tL_i.mp w; omega)]
  · rw [if_neg h1]
    by_cases h2 : 122 < c
    · rw [if_pos h2, if_neg (fun w => by have := tL_i.mp w; omega)]
    · rw [if_neg h2, if_pos (tL_i.mpr (by omega))]
theorem isDigit_e {n : Nat} {c : Int} {h : yH} : f_X4_isDigit n [c] h = some (if tD c = true then 1 else 0, h) := by
  rw [e_X4_isDigit]
  by_cases h1 : c < 48
  · rw [if_pos h1, if_neg (fun w => by have := tD_i.mp w; omega)]
  · rw [if_neg h1]
    by_cases h2 : 57 < c
    · rw [if_pos h2, if_neg (fun w => by have := tD_i.mp w; omega)]
    · rw [if_neg h2, if_pos (tD_i.mpr (by omega))]
theorem ctk_b {u : Nat → Int} {N : Nat} {h : yH} (hc : cC u N h) : ∀ (m x n : Nat), N - x = m → x ≤ N → 700 + m < n → ∃ n', 700 ≤ n' ∧ xl_X4_nextToken n 5 [80, 4, (x : Int)] h = xq_X4_nextToken_30 n' (xl_X4_nextToken n') [80, 4, (tkS u N x : Int)] h := by
  have e1 := hc.1
  have e2 := hc.2.1
  intro m
  induction m with
  | zero =>
    intro x n h1 h2 h3
    obtain ⟨n, rfl⟩ : ∃ n', n = n' + 1 := ⟨n - 1, by omega⟩
    refine ⟨n, by omega, ?_⟩
    rw [e_X4_nextToken_5, e1, if_neg (by omega), show tkS u N x = x from tGo_stop (by omega)]
  | succ m ih =>
    intro x n h1 h2 h3
    obtain ⟨n, rfl⟩ : ∃ n', n = n' + 1 := ⟨n - 1, by omega⟩
    rw [e_X4_nextToken_5, e1, if_pos (by omega), byteAt_lt hc (by omega), xb_some, isBlank_e, xb_some]
    by_cases hb : tB (u x) = true
    · rw [if_pos hb, if_neg (by decide), xg_pos (by omega)]
      obtain ⟨n', g1, g2⟩ := ih (x + 1) n (by omega) (by omega) (by omega)
      refine ⟨n', g1, ?_⟩
      rw [show tkS u N x = tkS u N (x + 1) from tGo_step (by omega) hb, ← g2]
      rfl
    · rw [if_neg hb, if_pos rfl]
      refine ⟨n, by omega, ?_⟩
      rw [show tkS u N x = x from tGo_stop (fun w => hb w.2)]
theorem ctk_l {u : Nat → Int} {N : Nat} {h : yH} (hc : cC u N h) {x3 : Int} : ∀ (m x n : Nat), N - x = m → x ≤ N → m < n → xl_X4_nextToken n 69 [80, 4, (x : Int), x3] h = some (0, zup h 80 9 (tGo tL u N x : Int)) := by
  have e1 := hc.1
  have e2 := hc.2.1
  intro m
  induction m with
  | zero =>
    intro x n h1 h2 h3
    obtain ⟨n, rfl⟩ : ∃ n', n = n' + 1 := ⟨n - 1, by omega⟩
    rw [e_X4_nextToken_69, e1, if_neg (by omega), show tGo tL u N x = x from tGo_stop (by omega), xg_pos (by omega)]
  | succ m ih =>
    intro x n h1 h2 h3
    obtain ⟨n, rfl⟩ : ∃ n', n = n' + 1 := ⟨n - 1, by omega⟩
    rw [e_X4_nextToken_69, e1, if_pos (by omega), byteAt_lt hc (by omega), xb_some, isLetter_e, xb_some]
    by_cases hb : tL (u x) = true
    · rw [if_pos hb, if_neg (by decide), xg_pos (by omega)]
      rw [show tGo tL u N x = tGo tL u N (x + 1) from tGo_step (by omega) hb, ← ih (x + 1) n (by omega) (by omega) (by omega)]
      rfl
    · rw [if_neg hb, if_pos rfl]
      rw [show tGo tL u N x = x from tGo_stop (fun w => hb w.2), xg_pos (by omega)]
theorem ctk_d {u : Nat → Int} {N : Nat} {h : yH} (hc : cC u N h) {x3 : Int} : ∀ (m x n : Nat), N - x = m → x ≤ N → m < n → ∃ n', xl_X4_nextToken n 101 [80, 4, (x : Int), x3] h = xq_X4_nextToken_126 n' (xl_X4_nextToken n') [80, 4, (tGo tD u N x : Int), x3] h := by
  have e1 := hc.1
  have e2 := hc.2.1
  intro m
  induction m with
  | zero =>
    intro x n h1 h2 h3
    obtain ⟨n, rfl⟩ : ∃ n', n = n' + 1 := ⟨n - 1, by omega⟩
    refine ⟨n, ?_⟩
    rw [e_X4_nextToken_101, e1, if_neg (by omega), show tGo tD u N x = x from tGo_stop (by omega)]
  | succ m ih =>
    intro x n h1 h2 h3
    obtain ⟨n, rfl⟩ : ∃ n', n = n' + 1 := ⟨n - 1, by omega⟩
    rw [e_X4_nextToken_101, e1, if_pos (by omega), byteAt_lt hc (by omega), xb_some, isDigit_e, xb_some]
    by_cases hb : tD (u x) = true
    · rw [if_pos hb, if_neg (by decide), xg_pos (by omega)]
      obtain ⟨n', g2⟩ := ih (x + 1) n (by omega) (by omega) (by omega)
      refine ⟨n', ?_⟩
      rw [show tGo tD u N x = tGo tD u N (x + 1) from tGo_step (by omega) hb, ← g2]
      rfl
    · rw [if_neg hb, if_pos rfl]
      refine ⟨n, ?_⟩
      rw [show tGo tD u N x = x from tGo_stop (fun w => hb w.2)]
/-- the class's number of a token -/
def tc (k : Nat) : Int := if k = 0 then 0 else if k = 1 then 4 else (k : Int) - 1
def cTk (u : Nat → Int) (N x : Nat) (h : yH) : yH := zup (zup (zup h 80 8 (tkS u N x : Int)) 80 7 (tc (tkK u N x))) 80 9 (tkE u N x : Int)
theorem cTk_C {u : Nat → Int} {N x : Nat} {h : yH} (hc : cC u N h) : cC u N (cTk u N x h) := ((hc.up (by decide) (by decide) (by decide)).up (by decide) (by decide) (by decide)).up (by decide) (by decide) (by decide)
theorem nextToken_e {u : Nat → Int} {N n x : Nat} {h : yH} (hc : cC u N h) (hx : h 80 9 = (x : Int)) (hxN : x ≤ N) (hn : 1400 ≤ n) : f_X4_nextToken n [80, 4] h = some (0, cTk u N x h) := by
  have e1 := hc.1
  have e2 := hc.2.1
  rw [e_X4_nextToken, hx]
  obtain ⟨n', g1, g2⟩ := ctk_b hc (N - x) x n rfl hxN (by omega)
  rw [g2, e_X4_nextToken_30]
  have hs : tkS u N x ≤ N := tkS_n hxN
  have hc1 : cC u N (zup h 80 8 (tkS u N x : Int)) := hc.up (by decide) (by decide) (by decide)
  have e11 := hc1.1
  unfold cTk tkE tkK
  rw [xg_pos (by omega)]
  generalize hs8 : tkS u N x = s at *
  by_cases hN : s < N
  · rw [byteAt_lt hc1 hN, xb_some, e11, if_pos (by omega), isLetter_e, xb_some, if_neg (show ¬ N ≤ s by omega), if_neg (show ¬ N ≤ s by omega)]
    by_cases hl : tL (u s) = true
    · rw [if_pos hl, if_neg (by decide), if_pos hl, if_pos hl, ctk_l (hc1.up (by decide) (by decide) (by decide)) (N - s) s n' rfl (by omega) (by omega)]
      rfl
    · rw [if_neg hl, if_pos rfl, if_neg hl, if_neg hl, isDigit_e, xb_some]
      by_cases hd : tD (u s) = true
      · rw [if_pos hd, if_neg (by decide), if_pos hd, if_pos hd]
        obtain ⟨n2, g3⟩ := ctk_d hc1 (x3 := u s) (N - s) s n' rfl (by omega) (by omega)
        have hE : tGo tD u N s ≤ N := tGo_n (by omega)
        have hE2 : s ≤ tGo tD u N s := tGo_le
        rw [g3, e_X4_nextToken_126, zup_at, xg_pos (by omega)]
        by_cases h2 : tGo tD u N s - s ≤ 2
        · rw [if_neg (by omega), xg_pos (by omega), if_pos h2]
          rfl
        · rw [if_pos (by omega), xg_pos (by omega), if_neg h2]
          rfl
      · rw [if_neg hd, if_pos rfl, if_neg hd, if_neg hd]
        by_cases h59 : u s = 59
        · rw [if_pos h59, if_pos h59, xg_pos (by omega), xg_pos (by omega)]
          rfl
        · rw [if_neg h59, if_neg h59, xg_pos (by omega), xg_pos (by omega)]
          rfl
  · rw [byteAt_ge hc1 hN, xb_some, e11, if_neg (by omega), xg_pos (by omega), if_pos (show N ≤ s by omega), if_pos (show N ≤ s by omega)]
    rfl
theorem tkK_3 {u : Nat → Int} {N x : Nat} (h : tkK u N x = 3) : tkS u N x < N ∧ tkE u N x ≤ N ∧ (tkE u N x = tkS u N x + 1 ∨ tkE u N x = tkS u N x + 2) ∧ ∀ i, tkS u N x ≤ i → i < tkE u N x → 48 ≤ u i ∧ u i ≤ 57 := by
  unfold tkK at h
  unfold tkE
  by_cases h1 : N ≤ tkS u N x
  · rw [if_pos h1] at h; cases h
  · rw [if_neg h1] at h ⊢
    by_cases h2 : tL (u (tkS u N x)) = true
    · rw [if_pos h2] at h; cases h
    · rw [if_neg h2] at h ⊢
      by_cases h3 : tD (u (tkS u N x)) = true
      · rw [if_pos h3] at h ⊢
        by_cases h4 : tGo tD u N (tkS u N x) - tkS u N x ≤ 2
        · have g1 : tGo tD u N (tkS u N x) ≤ N := tGo_n (by omega)
          have g2 : tkS u N x + 1 ≤ tGo tD u N (tkS u N x) := by
            rw [tGo_step (by omega) h3]
            exact tGo_le
          exact ⟨by omega, g1, by omega, fun i a b => tD_i.mp (tGo_all a b).2⟩
        · rw [if_neg h4] at h; cases h
      · rw [if_neg h3] at h
        split at h <;> cases h
theorem number_e {u : Nat → Int} {N n x : Nat} {h : yH} (hc : cC u N h) (h8 : h 80 8 = (tkS u N x : Int)) (h9 : h 80 9 = (tkE u N x : Int)) (hk : tkK u N x = 3) (hn : 5 ≤ n) : f_X4_numberOnTape n [80, 4] h = some (tkV u N x, h) := by
  obtain ⟨k1, k2, k3, k4⟩ := tkK_3 hk
  have e600 := hc.2.1
  obtain ⟨n, rfl⟩ : ∃ n', n = n' + 3 := ⟨n - 3, by omega⟩
  rw [e_X4_numberOnTape, h8]
  unfold tkV
  generalize tkS u N x = s at *
  generalize tkE u N x = e at *
  have d0 := k4 s (by omega) (by omega)
  rcases k3 with rfl | rfl
  · rw [e_X4_numberOnTape_7, h9, if_pos (by omega), xg_pos (by omega), byteAt_lt hc k1, xb_some, xg_pos (by omega), xg_pos (by omega), xg_pos (by omega), e_X4_numberOnTape_7, h9, if_neg (by omega), show s + 1 - s = 1 by omega]
    simp only [tDg, Nat.add_zero]
    rw [if_pos (by omega)]
    congr 2
    omega
  · have d1 := k4 (s + 1) (by omega) (by omega)
    rw [e_X4_numberOnTape_7, h9, if_pos (by omega), xg_pos (by omega), byteAt_lt hc k1, xb_some, xg_pos (by omega), xg_pos (by omega), xg_pos (by omega), e_X4_numberOnTape_7, h9, if_pos (by omega), xg_pos (by omega), show (s : Int) + 1 = ((s + 1 : Nat) : Int) by omega, byteAt_lt hc (by omega), xb_some, xg_pos (by omega), xg_pos (by omega), xg_pos (by omega), e_X4_numberOnTape_7, h9, if_neg (by omega), show s + 2 - s = 2 by omega]
    simp only [tDg, Nat.add_zero]
    rw [if_pos (by omega), if_pos (by omega)]
    congr 2
    omega
theorem tkS_E {u : Nat → Int} {N x : Nat} : tkS u N x ≤ tkE u N x := by
  by_cases h : tkS u N x < N
  · exact Nat.le_of_lt (tkE_gt h)
  · unfold tkE
    rw [if_pos (by omega)]
    exact Nat.le_refl _
/-! words -/
theorem tPk_inj {u w : Nat → Int} {s : Nat} : ∀ {k k' : Nat}, (∀ i, i < k → 0 < u (s + i) ∧ u (s + i) < 256) → (∀ i, i < k' → 0 < w (0 + i) ∧ w (0 + i) < 256) → tPk u s k = tPk w 0 k' → k = k' ∧ ∀ i, i < k → u (s + i) = w (0 + i) := by
  intro k
  induction k with
  | zero =>
    intro k' hu hw e
    cases k' with
    | zero => exact ⟨rfl, fun i hi => by omega⟩
    | succ k' =>
      have h1 := tPk_b (u := w) (s := 0) (k := k') (fun i hi => ⟨by have := hw i (by omega); omega, (hw i (by omega)).2⟩)
      have h2 := hw k' (by omega)
      simp only [tPk] at e
      omega
  | succ k ih =>
    intro k' hu hw e
    have h3 := tPk_b (u := u) (s := s) (k := k) (fun i hi => ⟨by have := hu i (by omega); omega, (hu i (by omega)).2⟩)
    have h4 := hu k (by omega)
    cases k' with
    | zero =>
      simp only [tPk] at e
      omega
    | succ k' =>
      have h1 := tPk_b (u := w) (s := 0) (k := k') (fun i hi => ⟨by have := hw i (by omega); omega, (hw i (by omega)).2⟩)
      have h2 := hw k' (by omega)
      simp only [tPk] at e
      have e1 : tPk u s k = tPk w 0 k' := by omega
      have e2 : u (s + k) = w (0 + k') := by omega
      obtain ⟨g1, g2⟩ := ih (fun i hi => hu i (by omega)) (fun i hi => hw i (by omega)) e1
      subst g1
      refine ⟨rfl, fun i hi => ?_⟩
      by_cases hik : i = k
      · rw [hik]; exact e2
      · exact g2 i (by omega)
theorem tPk_eq {u w : Nat → Int} {s : Nat} : ∀ {k : Nat}, (∀ i, i < k → u (s + i) = w (0 + i)) → tPk u s k = tPk w 0 k := by
  intro k
  induction k with
  | zero => intro _; rfl
  | succ k ih =>
    intro h
    simp only [tPk]
    rw [ih (fun i hi => h i (by omega)), h k (by omega)]
theorem lnW_pk : ∀ ln : Fin 15, lnW.getD ln.val 0 = tPk (fun i => zch ln.val i) 0 (zSl.getD ln.val 0) := by decide +kernel
theorem zch_b : ∀ ln : Fin 15, ∀ i : Fin 5, i.val < zSl.getD ln.val 0 → 0 < zch ln.val i.val ∧ zch ln.val i.val < 256 := by decide +kernel
theorem zSl_b : ∀ ln : Fin 15, 3 ≤ zSl.getD ln.val 0 ∧ zSl.getD ln.val 0 ≤ 5 := by decide +kernel
theorem lnW_nz : ∀ ln : Fin 15, lnW.getD ln.val 0 ≠ 0 := by decide +kernel
/-- a word on the tape -/
theorem word_i {u : Nat → Int} {N x ln : Nat} (hb : ∀ i, i < N → 0 ≤ u i ∧ u i ≤ 255) (hk : tkK u N x = 2) (hl : ln < 15) (hx : x ≤ N) : lnW.getD ln 0 = tkW u N x ↔ (zSl.getD ln 0 = tkE u N x - tkS u N x ∧ ∀ i, i < zSl.getD ln 0 → u (tkS u N x + i) = zch ln i) := by
  have hE : ∀ i, tkS u N x ≤ i → i < tkE u N x → 97 ≤ u i ∧ u i ≤ 122 := by
    intro i a b
    unfold tkK at hk
    unfold tkE at b
    by_cases h1 : N ≤ tkS u N x
    · rw [if_pos h1] at hk; cases hk
    · rw [if_neg h1] at hk b
      by_cases h2 : tL (u (tkS u N x)) = true
      · rw [if_pos h2] at b
        exact tL_i.mp (tGo_all a b).2
      · rw [if_neg h2] at hk
        split at hk
        · split at hk <;> cases hk
        · split at hk <;> cases hk
  have w1 := lnW_pk ⟨ln, hl⟩
  have w2 := zch_b ⟨ln, hl⟩
  have w3 := zSl_b ⟨ln, hl⟩
  have w4 := lnW_nz ⟨ln, hl⟩
  simp only at w1 w2 w3 w4
  unfold tkW
  by_cases h8 : 8 < tkE u N x - tkS u N x
  · rw [if_pos h8]
    exact ⟨fun w => absurd w w4, fun w => by omega⟩
  · rw [if_neg h8, w1]
    constructor
    · intro e
      obtain ⟨g1, g2⟩ := tPk_inj (fun i hi => by have := hE (tkS u N x + i) (by omega) (by omega); omega) (fun i hi => by rw [Nat.zero_add]; exact w2 ⟨i, by omega⟩ hi) e.symm
      refine ⟨g1.symm, fun i hi => ?_⟩
      rw [g2 i (by omega), Nat.zero_add]
    · intro e
      rw [← e.1]
      exact (tPk_eq (fun i hi => by rw [e.2 i hi, Nat.zero_add])).symm
