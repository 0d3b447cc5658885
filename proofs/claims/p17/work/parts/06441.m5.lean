section
/-! the class: pointers that stay, the tape, tokens -/
def cPL : List (Nat × Nat × Int) := [(1, 0, 3), (1, 1, 2), (1, 2, 80), (3, 0, 4), (3, 1, 6), (3, 2, 7), (3, 3, 8), (3, 4, 9), (4, 0, 5), (7, 0, 20), (7, 1, 30), (8, 0, 40), (8, 1, 50), (9, 0, 60), (9, 1, 70),
  (80, 0, 90), (80, 1, 100), (80, 2, 110), (80, 5, 120), (80, 6, 121),
  (90, 5, 91), (90, 7, 92), (90, 8, 93), (90, 9, 94), (90, 11, 95), (90, 12, 96), (90, 13, 97), (100, 1, 101), (100, 2, 102), (110, 1, 111), (110, 2, 112), (110, 4, 113), (110, 5, 114),
  (20, 5, 21), (20, 7, 22), (20, 8, 23), (20, 9, 24), (20, 11, 25), (20, 12, 26), (20, 13, 27), (30, 5, 31), (30, 7, 32), (30, 8, 33), (30, 9, 34), (30, 11, 35), (30, 12, 36), (30, 13, 37),
  (40, 1, 41), (40, 2, 42), (50, 1, 51), (50, 2, 52), (60, 1, 61), (60, 2, 62), (60, 4, 63), (60, 5, 64), (70, 1, 71), (70, 2, 72), (70, 4, 73), (70, 5, 74)]
def cF (a j : Nat) : Bool := cPL.any (fun p => p.1 == a && p.2.1 == j)
def cP (h : yH) : Prop := ∀ p ∈ cPL, h p.1 p.2.1 = p.2.2
theorem cP.p {h : yH} (hc : cP h) {a j : Nat} {v : Int} (hm : (a, j, v) ∈ cPL) : h a j = v := hc _ hm
theorem cP.fr {h h2 : yH} (hc : cP h) (hf : ∀ a j, cF a j = true → h2 a j = h a j) : cP h2 := by
  intro p hp
  rw [hf p.1 p.2.1 (List.any_eq_true.mpr ⟨p, hp, by simp⟩)]
  exact hc p hp
theorem cP.up {h : yH} (hc : cP h) {a j : Nat} {x : Int} (hn : cF a j = false) : cP (zup h a j x) := by
  refine hc.fr (fun b i hb => zup_ne (fun w => ?_))
  rw [w.1, w.2, hn] at hb
  cases hb
/-- a text is read: the tape's bytes -/
def cC (u : Nat → Int) (N : Nat) (h : yH) : Prop := h 4 1 = (N : Int) ∧ N ≤ 600 ∧ (∀ i, i < N → yari 7 (h 5 i) 255 = u i) ∧ cP h
theorem cC.b {u : Nat → Int} {N : Nat} {h : yH} (hc : cC u N h) {i : Nat} (hi : i < N) : 0 ≤ u i ∧ u i ≤ 255 := by
  rw [← hc.2.2.1 i hi]
  exact y_and255 _
theorem cC.up {u : Nat → Int} {N : Nat} {h : yH} (hc : cC u N h) {a j : Nat} {x : Int} (h4 : ¬ (a = 4 ∧ j = 1)) (h5 : a ≠ 5) (hn : cF a j = false) : cC u N (zup h a j x) := by
  obtain ⟨e1, e2, e3, e4⟩ := hc
  refine ⟨by rw [zup_ne (by omega)]; exact e1, e2, fun i hi => by rw [zup_ne (by omega)]; exact e3 i hi, e4.up hn⟩
theorem cC.fr {u : Nat → Int} {N : Nat} {h h2 : yH} (hc : cC u N h) (h4 : h2 4 1 = h 4 1) (h5 : ∀ i, h2 5 i = h 5 i) (hn : ∀ a j, cF a j = true → h2 a j = h a j) : cC u N h2 := by
  obtain ⟨e1, e2, e3, e4⟩ := hc
  exact ⟨by rw [h4]; exact e1, e2, fun i hi => by rw [h5]; exact e3 i hi, e4.fr hn⟩
theorem byteAt_lt {u : Nat → Int} {N n i : Nat} {h : yH} (hc : cC u N h) (hi : i < N) : f_X8_byteAt n [4, (i : Int)] h = some (u i, h) := by
  obtain ⟨e1, e2, e3, e4⟩ := hc
  rw [e_X8_byteAt, if_neg (by omega), e1, if_pos (by omega), xg_pos (e4.p (by decide)), xg_pos (by omega), Int.toNat_natCast, e3 i hi]
theorem byteAt_ge {u : Nat → Int} {N n i : Nat} {h : yH} (hc : cC u N h) (hi : ¬ i < N) : f_X8_byteAt n [4, (i : Int)] h = some (0, h) := by
  obtain ⟨e1, e2, e3, e4⟩ := hc
  rw [e_X8_byteAt, if_neg (by omega), e1, if_neg (by omega)]
theorem isBlank_e {n : Nat} {c : Int} {h : yH} : f_X4_isBlank n [c] h = some (if tB c = true then 1 else 0, h) := by
  rw [e_X4_isBlank]
  by_cases h1 : c = 10
  · rw [if_pos h1, if_pos (tB_i.mpr (Or.inl h1))]
  · rw [if_neg h1]
    by_cases h2 : c = 32
    · rw [if_pos h2, if_pos (tB_i.mpr (Or.inr h2))]
    · rw [if_neg h2, if_neg (fun w => by have := tB_i.mp w; omega)]
theorem isLetter_e {n : Nat} {c : Int} {h : yH} : f_X4_isLetter n [c] h = some (if tL c = true then 1 else 0, h) := by
  rw [e_X4_isLetter]
  by_cases h1 : c < 97
  · rw [if_pos h1, if_neg (fun w => by have := tL_i.mp w; omega)]
  · rw [if_neg h1]
    by_cases h2 : 122 < c
    · rw [if_pos h2, if_neg (fun w => by have := tL_i.mp w; omega)]
    · rw [if_neg h2, if_pos (tL_i.mpr (by omega))]
theorem isDigit_e {n : Nat} {c : Int} {h : yH} : f_X4_isDigit n [c] h = some (if tD c = true then 1 else 0, h) := by
  rw [e_X4_isDigit]
  by_cases h1 : c < 48
  · rw [if_pos h1, if_neg (fun w => by have := tD_i.mp w; omega)]
  · rw [if_neg h1]
    by_cases h2 : 57 < c
    · rw [if_pos h2, if_neg (fun w => by have := tD_i.mp w; omega)]
    · rw [if_neg h2, if_pos (tD_i.mpr (by omega))]
theorem ctk_b {u : Nat → Int} {N : Nat} {h : yH} (hc : cC u N h) : ∀ (m x n : Nat), N - x = m → x ≤ N → 700 + m < n → ∃ n', 700 ≤ n' ∧ xl_X4_nextToken n 5 [80, 4, (x : Int)] h = xq_X4_nextToken_30 n' (xl_X4_nextToken n') [80, 4, (tkS u N x : Int)] h := by
  have e1 := hc.1
  have e2 := hc.2.1
  intro m
  induction m with
  | zero =>
    intro x n h1 h2 h3
    obtain ⟨n, rfl⟩ : ∃ n', n = n' + 1 := ⟨n - 1, by omega⟩
    refine ⟨n, by omega, ?_⟩
    rw [e_X4_nextToken_5, e1, if_neg (by omega), show tkS u N x = x from tGo_stop (by omega)]
  | succ m ih =>
    intro x n h1 h2 h3
    obtain ⟨n, rfl⟩ : ∃ n', n = n' + 1 := ⟨n - 1, by omega⟩
    rw [e_X4_nextToken_5, e1, if_pos (by omega), byteAt_lt hc (by omega), xb_some, isBlank_e, xb_some]
    by_cases hb : tB (u x) = true
    · rw [if_pos hb, if_neg (by decide), xg_pos (by omega)]
      obtain ⟨n', g1, g2⟩ := ih (x + 1) n (by omega) (by omega) (by omega)
      refine ⟨n', g1, ?_⟩
      rw [show tkS u N x = tkS u N (x + 1) from tGo_step (by omega) hb, ← g2]
      rfl
    · rw [if_neg hb, if_pos rfl]
      refine ⟨n, by omega, ?_⟩
      rw [show tkS u N x = x from tGo_stop (fun w => hb w.2)]
theorem ctk_l {u : Nat → Int} {N : Nat} {h : yH} (hc : cC u N h) {x3 : Int} : ∀ (m x n : Nat), N - x = m → x ≤ N → m < n → xl_X4_nextToken n 69 [80, 4, (x : Int), x3] h = some (0, zup h 80 9 (tGo tL u N x : Int)) := by
  have e1 := hc.1
  have e2 := hc.2.1
  intro m
  induction m with
  | zero =>
    intro x n h1 h2 h3
    obtain ⟨n, rfl⟩ : ∃ n', n = n' + 1 := ⟨n - 1, by omega⟩
    rw [e_X4_nextToken_69, e1, if_neg (by omega), show tGo tL u N x = x from tGo_stop (by omega), xg_pos (by omega)]
  | succ m ih =>
    intro x n h1 h2 h3
    obtain ⟨n, rfl⟩ : ∃ n', n = n' + 1 := ⟨n - 1, by omega⟩
    rw [e_X4_nextToken_69, e1, if_pos (by omega), byteAt_lt hc (by omega), xb_some, isLetter_e, xb_some]
    by_cases hb : tL (u x) = true
    · rw [if_pos hb, if_neg (by decide), xg_pos (by omega)]
      rw [show tGo tL u N x = tGo tL u N (x + 1) from tGo_step (by omega) hb, ← ih (x + 1) n (by omega) (by omega) (by omega)]
      rfl
    · rw [if_neg hb, if_pos rfl]
      rw [show tGo tL u N x = x from tGo_stop (fun w => hb w.2), xg_pos (by omega)]
theorem ctk_d {u : Nat → Int} {N : Nat} {h : yH} (hc : cC u N h) {x3 : Int} : ∀ (m x n : Nat), N - x = m → x ≤ N → m < n → ∃ n', xl_X4_nextToken n 101 [80, 4, (x : Int), x3] h = xq_X4_nextToken_126 n' (xl_X4_nextToken n') [80, 4, (tGo tD u N x : Int), x3] h := by
  have e1 := hc.1
  have e2 := hc.2.1
  intro m
  induction m with
  | zero =>
    intro x n h1 h2 h3
    obtain ⟨n, rfl⟩ : ∃ n', n = n' + 1 := ⟨n - 1, by omega⟩
    refine ⟨n, ?_⟩
    rw [e_X4_nextToken_101, e1, if_neg (by omega), show tGo tD u N x = x from tGo_stop (by omega)]
  | succ m ih =>
    intro x n h1 h2 h3
    obtain ⟨n, rfl⟩ : ∃ n', n = n' + 1 := ⟨n - 1, by omega⟩
    rw [e_X4_nextToken_101, e1, if_pos (by omega), byteAt_lt hc (by omega), xb_some, isDigit_e, xb_some]
    by_cases hb : tD (u x) = true
    · rw [if_pos hb, if_neg (by decide), xg_pos (by omega)]
      obtain ⟨n', g2⟩ := ih (x + 1) n (by omega) (by omega) (by omega)
      refine ⟨n', ?_⟩
      rw [show tGo tD u N x = tGo tD u N (x + 1) from tGo_step (by omega) hb, ← g2]
      rfl
    · rw [if_neg hb, if_pos rfl]
      refine ⟨n, ?_⟩
      rw [show tGo tD u N x = x from tGo_stop (fun w => hb w.2)]
/-- the class's number of a token -/
def tc (k : Nat) : Int := if k = 0 then 0 else if k = 1 then 4 else (k : Int) - 1
def cTk (u : Nat → Int) (N x : Nat) (h : yH) : yH := zup (zup (zup h 80 8 (tkS u N x : Int)) 80 7 (tc (tkK u N x))) 80 9 (tkE u N x : Int)
theorem cTk_C {u : Nat → Int} {N x : Nat} {h : yH} (hc : cC u N h) : cC u N (cTk u N x h) := ((hc.up (by decide) (by decide) (by decide)).up (by decide) (by decide) (by decide)).up (by decide) (by decide) (by decide)
theorem nextToken_e {u : Nat → Int} {N n x : Nat} {h : yH} (hc : cC u N h) (hx : h 80 9 = (x : Int)) (hxN : x ≤ N) (hn : 1400 ≤ n) : f_X4_nextToken n [80, 4] h = some (0, cTk u N x h) := by
  have e1 := hc.1
  have e2 := hc.2.1
  rw [e_X4_nextToken, hx]
  obtain ⟨n', g1, g2⟩ := ctk_b hc (N - x) x n rfl hxN (by omega)
  rw [g2, e_X4_nextToken_30]
  have hs : tkS u N x ≤ N := tkS_n hxN
  have hc1 : cC u N (zup h 80 8 (tkS u N x : Int)) := hc.up (by decide) (by decide) (by decide)
  have e11 := hc1.1
  unfold cTk tkE tkK
  rw [xg_pos (by omega)]
  generalize hs8 : tkS u N x = s at *
  by_cases hN : s < N
  · rw [byteAt_lt hc1 hN, xb_some, e11, if_pos (by omega), isLetter_e, xb_some, if_neg (show ¬ N ≤ s by omega), if_neg (show ¬ N ≤ s by omega)]
    by_cases hl : tL (u s) = true
    · rw [if_pos hl, if_neg (by decide), if_pos hl, if_pos hl, ctk_l (hc1.up (by decide) (by decide) (by decide)) (N - s) s n' rfl (by omega) (by omega)]
      rfl
    · rw [if_neg hl, if_pos rfl, if_neg hl, if_neg hl, isDigit_e, xb_some]
      by_cases hd : tD (u s) = true
      · rw [if_pos hd, if_neg (by decide), if_pos hd, if_pos hd]
        obtain ⟨n2, g3⟩ := ctk_d hc1 (x3 := u s) (N - s) s n' rfl (by omega) (by omega)
        have hE : tGo tD u N s ≤ N := tGo_n (by omega)
        have hE2 : s ≤ tGo tD u N s := tGo_le
        rw [g3, e_X4_nextToken_126, zup_at, xg_pos (by omega)]
        by_cases h2 : tGo tD u N s - s ≤ 2
        · rw [if_neg (by omega), xg_pos (by omega), if_pos h2]
          rfl
        · rw [if_pos (by omega), xg_pos (by omega), if_neg h2]
          rfl
      · rw [if_neg hd, if_pos rfl, if_neg hd, if_neg hd]
        by_cases h59 : u s = 59
        · rw [if_pos h59, if_pos h59, xg_pos (by omega), xg_pos (by omega)]
          rfl
        · rw [if_neg h59, if_neg h59, xg_pos (by omega), xg_pos (by omega)]
          rfl
  · rw [byteAt_ge hc1 hN, xb_some, e11, if_neg (by omega), xg_pos (by omega), if_pos (show N ≤ s by omega), if_pos (show N ≤ s by omega)]
    rfl
theorem tkK_3 {u : Nat → Int} {N x : Nat} (h : tkK u N x = 3) : tkS u N x < N ∧ tkE u N x ≤ N ∧ (tkE u N x = tkS u N x + 1 ∨ tkE u N x = tkS u N x + 2) ∧ ∀ i, tkS u N x ≤ i → i < tkE u N x → 48 ≤ u i ∧ u i ≤ 57 := by
  unfold tkK at h
  unfold tkE
  by_cases h1 : N ≤ tkS u N x
  · rw [if_pos h1] at h; cases h
  · rw [if_neg h1] at h ⊢
    by_cases h2 : tL (u (tkS u N x)) = true
    · rw [if_pos h2] at h; cases h
    · rw [if_neg h2] at h ⊢
      by_cases h3 : tD (u (tkS u N x)) = true
      · rw [if_pos h3] at h ⊢
        by_cases h4 : tGo tD u N (tkS u N x) - tkS u N x ≤ 2
        · have g1 : tGo tD u N (tkS u N x) ≤ N := tGo_n (by omega)
          have g2 : tkS u N x + 1 ≤ tGo tD u N (tkS u N x) := by
            rw [tGo_step (by omega) h3]
            exact tGo_le
          exact ⟨by omega, g1, by omega, fun i a b => tD_i.mp (tGo_all a b).2⟩
        · rw [if_neg h4] at h; cases h
      · rw [if_neg h3] at h
        split at h <;> cases h
theorem number_e {u : Nat → Int} {N n x : Nat} {h : yH} (hc : cC u N h) (h8 : h 80 8 = (tkS u N x : Int)) (h9 : h 80 9 = (tkE u N x : Int)) (hk : tkK u N x = 3) (hn : 5 ≤ n) : f_X4_numberOnTape n [80, 4] h = some (tkV u N x, h) := by
  obtain ⟨k1, k2, k3, k4⟩ := tkK_3 hk
  have e600 := hc.2.1
  obtain ⟨n, rfl⟩ : ∃ n', n = n' + 3 := ⟨n - 3, by omega⟩
  rw [e_X4_numberOnTape, h8]
  unfold tkV
  generalize tkS u N x = s at *
  generalize tkE u N x = e at *
  have d0 := k4 s (by omega) (by omega)
  rcases k3 with rfl | rfl
  · rw [e_X4_numberOnTape_7, h9, if_pos (by omega), xg_pos (by omega), byteAt_lt hc k1, xb_some, xg_pos (by omega), xg_pos (by omega), xg_pos (by omega), e_X4_numberOnTape_7, h9, if_neg (by omega), show s + 1 - s = 1 by omega]
    simp only [tDg, Nat.add_zero]
    rw [if_pos (by omega)]
    congr 2
    omega
  · have d1 := k4 (s + 1) (by omega) (by omega)
    rw [e_X4_numberOnTape_7, h9, if_pos (by omega), xg_pos (by omega), byteAt_lt hc k1, xb_some, xg_pos (by omega), xg_pos (by omega), xg_pos (by omega), e_X4_numberOnTape_7, h9, if_pos (by omega), xg_pos (by omega), show (s : Int) + 1 = ((s + 1 : Nat) : Int) by omega, byteAt_lt hc (by omega), xb_some, xg_pos (by omega), xg_pos (by omega), xg_pos (by omega), e_X4_numberOnTape_7, h9, if_neg (by omega), show s + 2 - s = 2 by omega]
    simp only [tDg, Nat.add_zero]
    rw [if_pos (by omega), if_pos (by omega)]
    congr 2
    omega
theorem tkS_E {u : Nat → Int} {N x : Nat} : tkS u N x ≤ tkE u N x := by
  by_cases h : tkS u N x < N
  · exact Nat.le_of_lt (tkE_gt h)
  · unfold tkE
    rw [if_pos (by omega)]
    exact Nat.le_refl _
/-! words -/
theorem tPk_inj {u w : Nat → Int} {s : Nat} : ∀ {k k' : Nat}, (∀ i, i < k → 0 < u (s + i) ∧ u (s + i) < 256) → (∀ i, i < k' → 0 < w (0 + i) ∧ w (0 + i) < 256) → tPk u s k = tPk w 0 k' → k = k' ∧ ∀ i, i < k → u (s + i) = w (0 + i) := by
  intro k
  induction k with
  | zero =>
    intro k' hu hw e
    cases k' with
    | zero => exact ⟨rfl, fun i hi => by omega⟩
    | succ k' =>
      have h1 := tPk_b (u := w) (s := 0) (k := k') (fun i hi => ⟨by have := hw i (by omega); omega, (hw i (by omega)).2⟩)
      have h2 := hw k' (by omega)
      simp only [tPk] at e
      omega
  | succ k ih =>
    intro k' hu hw e
    have h3 := tPk_b (u := u) (s := s) (k := k) (fun i hi => ⟨by have := hu i (by omega); omega, (hu i (by omega)).2⟩)
    have h4 := hu k (by omega)
    cases k' with
    | zero =>
      simp only [tPk] at e
      omega
    | succ k' =>
      have h1 := tPk_b (u := w) (s := 0) (k := k') (fun i hi => ⟨by have := hw i (by omega); omega, (hw i (by omega)).2⟩)
      have h2 := hw k' (by omega)
      simp only [tPk] at e
      have e1 : tPk u s k = tPk w 0 k' := by omega
      have e2 : u (s + k) = w (0 + k') := by omega
      obtain ⟨g1, g2⟩ := ih (fun i hi => hu i (by omega)) (fun i hi => hw i (by omega)) e1
      subst g1
      refine ⟨rfl, fun i hi => ?_⟩
      by_cases hik : i = k
      · rw [hik]; exact e2
      · exact g2 i (by omega)
theorem tPk_eq {u w : Nat → Int} {s : Nat} : ∀ {k : Nat}, (∀ i, i < k → u (s + i) = w (0 + i)) → tPk u s k = tPk w 0 k := by
  intro k
  induction k with
  | zero => intro _; rfl
  | succ k ih =>
    intro h
    simp only [tPk]
    rw [ih (fun i hi => h i (by omega)), h k (by omega)]
theorem lnW_pk : ∀ ln : Fin 15, lnW.getD ln.val 0 = tPk (fun i => zch ln.val i) 0 (zSl.getD ln.val 0) := by decide +kernel
theorem zch_b : ∀ ln : Fin 15, ∀ i : Fin 5, i.val < zSl.getD ln.val 0 → 0 < zch ln.val i.val ∧ zch ln.val i.val < 256 := by decide +kernel
theorem zSl_b : ∀ ln : Fin 15, 3 ≤ zSl.getD ln.val 0 ∧ zSl.getD ln.val 0 ≤ 5 := by decide +kernel
theorem lnW_nz : ∀ ln : Fin 15, lnW.getD ln.val 0 ≠ 0 := by decide +kernel
/-- a word on the tape -/
theorem word_i {u : Nat → Int} {N x ln : Nat} (hb : ∀ i, i < N → 0 ≤ u i ∧ u i ≤ 255) (hk : tkK u N x = 2) (hl : ln < 15) (hx : x ≤ N) : lnW.getD ln 0 = tkW u N x ↔ (zSl.getD ln 0 = tkE u N x - tkS u N x ∧ ∀ i, i < zSl.getD ln 0 → u (tkS u N x + i) = zch ln i) := by
  have hE : ∀ i, tkS u N x ≤ i → i < tkE u N x → 97 ≤ u i ∧ u i ≤ 122 := by
    intro i a b
    unfold tkK at hk
    unfold tkE at b
    by_cases h1 : N ≤ tkS u N x
    · rw [if_pos h1] at hk; cases hk
    · rw [if_neg h1] at hk b
      by_cases h2 : tL (u (tkS u N x)) = true
      · rw [if_pos h2] at b
        exact tL_i.mp (tGo_all a b).2
      · rw [if_neg h2] at hk
        split at hk
        · split at hk <;> cases hk
        · split at hk <;> cases hk
  have w1 := lnW_pk ⟨ln, hl⟩
  have w2 := zch_b ⟨ln, hl⟩
  have w3 := zSl_b ⟨ln, hl⟩
  have w4 := lnW_nz ⟨ln, hl⟩
  simp only at w1 w2 w3 w4
  unfold tkW
  by_cases h8 : 8 < tkE u N x - tkS u N x
  · rw [if_pos h8]
    exact ⟨fun w => absurd w w4, fun w => by omega⟩
  · rw [if_neg h8, w1]
    constructor
    · intro e
      obtain ⟨g1, g2⟩ := tPk_inj (fun i hi => by have := hE (tkS u N x + i) (by omega) (by omega); omega) (fun i hi => by rw [Nat.zero_add]; exact w2 ⟨i, by omega⟩ hi) e.symm
      refine ⟨g1.symm, fun i hi => ?_⟩
      rw [g2 i (by omega), Nat.zero_add]
    · intro e
      rw [← e.1]
      exact (tPk_eq (fun i hi => by rw [e.2 i hi, Nat.zero_add])).symm
end
section
/-! the class: lines by their words -/
theorem on3_l {u : Nat → Int} {N s ln : Nat} {x2 : Int} {h : yH} (hc : cC u N h) (h8 : h 80 8 = (s : Int)) (hx2 : x2 = 1000000 + (ln : Int)) (hl : ln < 15) (hE : s + zSl.getD ln 0 ≤ N) : ∀ (m i n : Nat), zSl.getD ln 0 - i = m → i ≤ zSl.getD ln 0 → m < n → ∃ v, xl_X4_isOnTape_3 n 20 [80, 4, x2, (i : Int)] h = some (v, h) ∧ (v = 0 ∨ v = 1) ∧ (v ≠ 0 ↔ ∀ j, i ≤ j → j < zSl.getD ln 0 → u (s + j) = zch ln j) := by
  have e1 := hc.1
  have e2 := hc.2.1
  have hln : (x2 - 1000000).toNat = ln := by omega
  have w3 := zSl_b ⟨ln, hl⟩
  simp only at w3
  intro m
  induction m with
  | zero =>
    intro i n h1 h2 h3
    obtain ⟨n, rfl⟩ : ∃ n', n = n' + 1 := ⟨n - 1, by omega⟩
    rw [e_X4_isOnTape_3_20, hln, xg_pos (by omega), if_neg (by omega)]
    exact ⟨1, rfl, Or.inr rfl, fun _ j a b => by omega, fun _ => by decide⟩
  | succ m ih =>
    intro i n h1 h2 h3
    obtain ⟨n, rfl⟩ : ∃ n', n = n' + 1 := ⟨n - 1, by omega⟩
    rw [e_X4_isOnTape_3_20, hln, xg_pos (by omega), if_pos (by omega), h8, xg_pos (by omega), show (s : Int) + (i : Int) = ((s + i : Nat) : Int) by omega, byteAt_lt hc (by omega), xb_some, xg_pos (by omega), xg_pos (by omega), Int.toNat_natCast]
    by_cases hz : u (s + i) = zch ln i
    · rw [if_pos hz, xg_pos (by omega)]
      obtain ⟨v, g1, g2, g3⟩ := ih (i + 1) n (by omega) (by omega) (by omega)
      refine ⟨v, g1, g2, g3.trans ⟨fun w j a b => ?_, fun w j a b => w j (by omega) b⟩⟩
      by_cases hj : j = i
      · rw [hj]; exact hz
      · exact w j (by omega) b
    · rw [if_neg hz]
      exact ⟨0, rfl, Or.inl rfl, fun w => absurd rfl w, fun w => absurd (w i (by omega) (by omega)) hz⟩
theorem on3_e {u : Nat → Int} {N x n ln : Nat} {x2 : Int} {h : yH} (hc : cC u N h) (h8 : h 80 8 = (tkS u N x : Int)) (h9 : h 80 9 = (tkE u N x : Int)) (hk : tkK u N x = 2) (hx : x ≤ N) (hx2 : x2 = 1000000 + (ln : Int)) (hl : ln < 15) (hn : 10 ≤ n) : ∃ v, f_X4_isOnTape_3 n [80, 4, x2] h = some (v, h) ∧ (v = 0 ∨ v = 1) ∧ (v ≠ 0 ↔ lnW.getD ln 0 = tkW u N x) := by
  have hln : (x2 - 1000000).toNat = ln := by omega
  have w3 := zSl_b ⟨ln, hl⟩
  simp only at w3
  have e2 := hc.2.1
  have gE : tkE u N x ≤ N := tkE_n hx
  have gS : tkS u N x ≤ N := tkS_n hx
  have gL : tkS u N x ≤ tkE u N x := tkS_E
  rw [e_X4_isOnTape_3, hln, xg_pos (by omega), h9, h8, xg_pos (by omega)]
  have hw := word_i (u := u) (N := N) (x := x) (ln := ln) (fun i hi => hc.b hi) hk hl hx
  by_cases hL : ((zSl.getD ln 0 : Nat) : Int) = (tkE u N x : Int) - (tkS u N x : Int)
  · rw [if_pos hL]
    obtain ⟨v, g1, g2, g3⟩ := on3_l hc h8 hx2 hl (by omega) (zSl.getD ln 0) 0 n (by omega) (by omega) (by omega)
    refine ⟨v, g1, g2, ?_⟩
    rw [hw, g3]
    exact ⟨fun w => ⟨by omega, fun j hj => w j (by omega) hj⟩, fun w j _ hj => w.2 j hj⟩
  · rw [if_neg hL]
    refine ⟨0, rfl, Or.inl rfl, fun w => absurd rfl w, fun w => ?_⟩
    exact absurd (hw.mp w).1 (by omega)
theorem on4_l {u : Nat → Int} {N s ln : Nat} {x2 : Int} {h : yH} (hc : cC u N h) (h8 : h 80 8 = (s : Int)) (hx2 : x2 = 1000000 + (ln : Int)) (hl : ln < 15) (hE : s + zSl.getD ln 0 ≤ N) : ∀ (m i n : Nat), zSl.getD ln 0 - i = m → i ≤ zSl.getD ln 0 → m < n → ∃ v, xl_X4_isOnTape_4 n 20 [80, 4, x2, (i : Int)] h = some (v, h) ∧ (v = 0 ∨ v = 1) ∧ (v ≠ 0 ↔ ∀ j, i ≤ j → j < zSl.getD ln 0 → u (s + j) = zch ln j) := by
  have e1 := hc.1
  have e2 := hc.2.1
  have hln : (x2 - 1000000).toNat = ln := by omega
  have w3 := zSl_b ⟨ln, hl⟩
  simp only at w3
  intro m
  induction m with
  | zero =>
    intro i n h1 h2 h3
    obtain ⟨n, rfl⟩ : ∃ n', n = n' + 1 := ⟨n - 1, by omega⟩
    rw [e_X4_isOnTape_4_20, hln, xg_pos (by omega), if_neg (by omega)]
    exact ⟨1, rfl, Or.inr rfl, fun _ j a b => by omega, fun _ => by decide⟩
  | succ m ih =>
    intro i n h1 h2 h3
    obtain ⟨n, rfl⟩ : ∃ n', n = n' + 1 := ⟨n - 1, by omega⟩
    rw [e_X4_isOnTape_4_20, hln, xg_pos (by omega), if_pos (by omega), h8, xg_pos (by omega), show (s : Int) + (i : Int) = ((s + i : Nat) : Int) by omega, byteAt_lt hc (by omega), xb_some, xg_pos (by omega), xg_pos (by omega), Int.toNat_natCast]
    by_cases hz : u (s + i) = zch ln i
    · rw [if_pos hz, xg_pos (by omega)]
      obtain ⟨v, g1, g2, g3⟩ := ih (i + 1) n (by omega) (by omega) (by omega)
      refine ⟨v, g1, g2, g3.trans ⟨fun w j a b => ?_, fun w j a b => w j (by omega) b⟩⟩
      by_cases hj : j = i
      · rw [hj]; exact hz
      · exact w j (by omega) b
    · rw [if_neg hz]
      exact ⟨0, rfl, Or.inl rfl, fun w => absurd rfl w, fun w => absurd (w i (by omega) (by omega)) hz⟩
theorem on4_e {u : Nat → Int} {N x n ln : Nat} {x2 : Int} {h : yH} (hc : cC u N h) (h8 : h 80 8 = (tkS u N x : Int)) (h9 : h 80 9 = (tkE u N x : Int)) (hk : tkK u N x = 2) (hx : x ≤ N) (hx2 : x2 = 1000000 + (ln : Int)) (hl : ln < 15) (hn : 10 ≤ n) : ∃ v, f_X4_isOnTape_4 n [80, 4, x2] h = some (v, h) ∧ (v = 0 ∨ v = 1) ∧ (v ≠ 0 ↔ lnW.getD ln 0 = tkW u N x) := by
  have hln : (x2 - 1000000).toNat = ln := by omega
  have w3 := zSl_b ⟨ln, hl⟩
  simp only at w3
  have e2 := hc.2.1
  have gE : tkE u N x ≤ N := tkE_n hx
  have gS : tkS u N x ≤ N := tkS_n hx
  have gL : tkS u N x ≤ tkE u N x := tkS_E
  rw [e_X4_isOnTape_4, hln, xg_pos (by omega), h9, h8, xg_pos (by omega)]
  have hw := word_i (u := u) (N := N) (x := x) (ln := ln) (fun i hi => hc.b hi) hk hl hx
  by_cases hL : ((zSl.getD ln 0 : Nat) : Int) = (tkE u N x : Int) - (tkS u N x : Int)
  · rw [if_pos hL]
    obtain ⟨v, g1, g2, g3⟩ := on4_l hc h8 hx2 hl (by omega) (zSl.getD ln 0) 0 n (by omega) (by omega) (by omega)
    refine ⟨v, g1, g2, ?_⟩
    rw [hw, g3]
    exact ⟨fun w => ⟨by omega, fun j hj => w j (by omega) hj⟩, fun w j _ hj => w.2 j hj⟩
  · rw [if_neg hL]
    refine ⟨0, rfl, Or.inl rfl, fun w => absurd rfl w, fun w => ?_⟩
    exact absurd (hw.mp w).1 (by omega)
theorem on5_l {u : Nat → Int} {N s ln : Nat} {x2 : Int} {h : yH} (hc : cC u N h) (h8 : h 80 8 = (s : Int)) (hx2 : x2 = 1000000 + (ln : Int)) (hl : ln < 15) (hE : s + zSl.getD ln 0 ≤ N) : ∀ (m i n : Nat), zSl.getD ln 0 - i = m → i ≤ zSl.getD ln 0 → m < n → ∃ v, xl_X4_isOnTape_5 n 20 [80, 4, x2, (i : Int)] h = some (v, h) ∧ (v = 0 ∨ v = 1) ∧ (v ≠ 0 ↔ ∀ j, i ≤ j → j < zSl.getD ln 0 → u (s + j) = zch ln j) := by
  have e1 := hc.1
  have e2 := hc.2.1
  have hln : (x2 - 1000000).toNat = ln := by omega
  have w3 := zSl_b ⟨ln, hl⟩
  simp only at w3
  intro m
  induction m with
  | zero =>
    intro i n h1 h2 h3
    obtain ⟨n, rfl⟩ : ∃ n', n = n' + 1 := ⟨n - 1, by omega⟩
    rw [e_X4_isOnTape_5_20, hln, xg_pos (by omega), if_neg (by omega)]
    exact ⟨1, rfl, Or.inr rfl, fun _ j a b => by omega, fun _ => by decide⟩
  | succ m ih =>
    intro i n h1 h2 h3
    obtain ⟨n, rfl⟩ : ∃ n', n = n' + 1 := ⟨n - 1, by omega⟩
    rw [e_X4_isOnTape_5_20, hln, xg_pos (by omega), if_pos (by omega), h8, xg_pos (by omega), show (s : Int) + (i : Int) = ((s + i : Nat) : Int) by omega, byteAt_lt hc (by omega), xb_some, xg_pos (by omega), xg_pos (by omega), Int.toNat_natCast]
    by_cases hz : u (s + i) = zch ln i
    · rw [if_pos hz, xg_pos (by omega)]
      obtain ⟨v, g1, g2, g3⟩ := ih (i + 1) n (by omega) (by omega) (by omega)
      refine ⟨v, g1, g2, g3.trans ⟨fun w j a b => ?_, fun w j a b => w j (by omega) b⟩⟩
      by_cases hj : j = i
      · rw [hj]; exact hz
      · exact w j (by omega) b
    · rw [if_neg hz]
      exact ⟨0, rfl, Or.inl rfl, fun w => absurd rfl w, fun w => absurd (w i (by omega) (by omega)) hz⟩
theorem on5_e {u : Nat → Int} {N x n ln : Nat} {x2 : Int} {h : yH} (hc : cC u N h) (h8 : h 80 8 = (tkS u N x : Int)) (h9 : h 80 9 = (tkE u N x : Int)) (hk : tkK u N x = 2) (hx : x ≤ N) (hx2 : x2 = 1000000 + (ln : Int)) (hl : ln < 15) (hn : 10 ≤ n) : ∃ v, f_X4_isOnTape_5 n [80, 4, x2] h = some (v, h) ∧ (v = 0 ∨ v = 1) ∧ (v ≠ 0 ↔ lnW.getD ln 0 = tkW u N x) := by
  have hln : (x2 - 1000000).toNat = ln := by omega
  have w3 := zSl_b ⟨ln, hl⟩
  simp only at w3
  have e2 := hc.2.1
  have gE : tkE u N x ≤ N := tkE_n hx
  have gS : tkS u N x ≤ N := tkS_n hx
  have gL : tkS u N x ≤ tkE u N x := tkS_E
  rw [e_X4_isOnTape_5, hln, xg_pos (by omega), h9, h8, xg_pos (by omega)]
  have hw := word_i (u := u) (N := N) (x := x) (ln := ln) (fun i hi => hc.b hi) hk hl hx
  by_cases hL : ((zSl.getD ln 0 : Nat) : Int) = (tkE u N x : Int) - (tkS u N x : Int)
  · rw [if_pos hL]
    obtain ⟨v, g1, g2, g3⟩ := on5_l hc h8 hx2 hl (by omega) (zSl.getD ln 0) 0 n (by omega) (by omega) (by omega)
    refine ⟨v, g1, g2, ?_⟩
    rw [hw, g3]
    exact ⟨fun w => ⟨by omega, fun j hj => w j (by omega) hj⟩, fun w j _ hj => w.2 j hj⟩
  · rw [if_neg hL]
    refine ⟨0, rfl, Or.inl rfl, fun w => absurd rfl w, fun w => ?_⟩
    exact absurd (hw.mp w).1 (by omega)
theorem tT0 : ∀ of : Fin 3, 0 ≤ (zTv 0).getD of.val 0 ∧ (zTv 0).getD of.val 0 ≤ (zTv 0).getD (of.val + 1) 0 ∧ (zTv 0).getD (of.val + 1) 0 ≤ 15 := by decide +kernel
theorem lnIn_j {of ln : Nat} (hof : of ≤ 2) (hi : lnIn of ln) : (of = 0 ∧ ln < 7) ∨ (of = 1 ∧ 7 ≤ ln ∧ ln < 13) ∨ (of = 2 ∧ 13 ≤ ln ∧ ln < 15) := by
  obtain ⟨h1, h2⟩ := hi
  have z0 : (zTv 0).getD 0 0 = 0 := by decide +kernel
  have z1 : (zTv 0).getD 1 0 = 7 := by decide +kernel
  have z2 : (zTv 0).getD 2 0 = 13 := by decide +kernel
  have z3 : (zTv 0).getD 3 0 = 15 := by decide +kernel
  rcases (show of = 0 ∨ of = 1 ∨ of = 2 by omega) with rfl | rfl | rfl
  · rw [z0] at h1; rw [show 0 + 1 = 1 from rfl, z1] at h2; omega
  · rw [z1] at h1; rw [show 1 + 1 = 2 from rfl, z2] at h2; omega
  · rw [z2] at h1; rw [show 2 + 1 = 3 from rfl, z3] at h2; omega
theorem line_s {u : Nat → Int} {N x n of ln : Nat} {h : yH} (hof : of ≤ 2) (hc : cC u N h) (h8 : h 80 8 = (tkS u N x : Int)) (h9 : h 80 9 = (tkE u N x : Int)) (hk : tkK u N x = 2) (hx : x ≤ N) (hi : lnIn of ln) (hn : 10 ≤ n) : ∃ v : Int, (v ≠ 0 ↔ lnW.getD ln 0 = tkW u N x) ∧ xl_X4_lineOf (n + 1) 6 [80, 4, (of : Int), (ln : Int)] h = if v = 0 then xl_X4_lineOf n 6 [80, 4, (of : Int), ((ln + 1 : Nat) : Int)] h else some ((ln : Int), h) := by
  have hii := lnIn_j hof hi
  rcases hii with ⟨rfl, hl⟩ | ⟨rfl, hl⟩ | ⟨rfl, hl⟩
  · rcases (show ln = 0 ∨ ln = 1 ∨ ln = 2 ∨ ln = 3 ∨ ln = 4 ∨ ln = 5 ∨ ln = 6 by omega) with rfl | rfl | rfl | rfl | rfl | rfl | rfl
    · obtain ⟨v, g1, g2, g3⟩ := on4_e (ln := 0) (x2 := 1000000) (n := n) hc h8 h9 hk hx (by decide) (by decide) hn
      refine ⟨v, g3, ?_⟩
      rw [show ((0 : Nat) : Int) = 0 from rfl, show ((0 + 1 : Nat) : Int) = 1 from rfl, e_X4_lineOf_c0, e_X4_wordOf_4, if_pos (show (0 : Int) = 0 by decide), xb_some, xg_pos (by decide), g1, xb_some]
    · obtain ⟨v, g1, g2, g3⟩ := on4_e (ln := 1) (x2 := 1000001) (n := n) hc h8 h9 hk hx (by decide) (by decide) hn
      refine ⟨v, g3, ?_⟩
      rw [show ((0 : Nat) : Int) = 0 from rfl, show ((1 : Nat) : Int) = 1 from rfl, show ((1 + 1 : Nat) : Int) = 2 from rfl, e_X4_lineOf_c1, e_X4_wordOf_4, if_neg (show ¬ (1 : Int) = 0 by decide), if_pos (show (1 : Int) = 1 by decide), xb_some, xg_pos (by decide), g1, xb_some]
    · obtain ⟨v, g1, g2, g3⟩ := on4_e (ln := 2) (x2 := 1000002) (n := n) hc h8 h9 hk hx (by decide) (by decide) hn
      refine ⟨v, g3, ?_⟩
      rw [show ((0 : Nat) : Int) = 0 from rfl, show ((2 : Nat) : Int) = 2 from rfl, show ((2 + 1 : Nat) : Int) = 3 from rfl, e_X4_lineOf_c2, e_X4_wordOf_4, if_neg (show ¬ (2 : Int) = 0 by decide), if_neg (show ¬ (2 : Int) = 1 by decide), if_pos (show (2 : Int) = 2 by decide), xb_some, xg_pos (by decide), g1, xb_some]
    · obtain ⟨v, g1, g2, g3⟩ := on5_e (ln := 3) (x2 := 1000003) (n := n) hc h8 h9 hk hx (by decide) (by decide) hn
      refine ⟨v, g3, ?_⟩
      rw [show ((0 : Nat) : Int) = 0 from rfl, show ((3 : Nat) : Int) = 3 from rfl, show ((3 + 1 : Nat) : Int) = 4 from rfl, e_X4_lineOf_c3, e_X4_wordOf_5, if_neg (show ¬ (3 : Int) = 0 by decide), if_neg (show ¬ (3 : Int) = 1 by decide), if_neg (show ¬ (3 : Int) = 2 by decide), if_pos (show (3 : Int) = 3 by decide), xb_some, xg_pos (by decide), g1, xb_some]
    · obtain ⟨v, g1, g2, g3⟩ := on5_e (ln := 4) (x2 := 1000004) (n := n) hc h8 h9 hk hx (by decide) (by decide) hn
      refine ⟨v, g3, ?_⟩
      rw [show ((0 : Nat) : Int) = 0 from rfl, show ((4 : Nat) : Int) = 4 from rfl, show ((4 + 1 : Nat) : Int) = 5 from rfl, e_X4_lineOf_c4, e_X4_wordOf_5, if_neg (show ¬ (4 : Int) = 0 by decide), if_neg (show ¬ (4 : Int) = 1 by decide), if_neg (show ¬ (4 : Int) = 2 by decide), if_neg (show ¬ (4 : Int) = 3 by decide), if_pos (show (4 : Int) = 4 by decide), xb_some, xg_pos (by decide), g1, xb_some]
    · obtain ⟨v, g1, g2, g3⟩ := on4_e (ln := 5) (x2 := 1000005) (n := n) hc h8 h9 hk hx (by decide) (by decide) hn
      refine ⟨v, g3, ?_⟩
      rw [show ((0 : Nat) : Int) = 0 from rfl, show ((5 : Nat) : Int) = 5 from rfl, show ((5 + 1 : Nat) : Int) = 6 from rfl, e_X4_lineOf_c5, e_X4_wordOf_4, if_neg (show ¬ (5 : Int) = 0 by decide), if_neg (show ¬ (5 : Int) = 1 by decide), if_neg (show ¬ (5 : Int) = 2 by decide), if_neg (show ¬ (5 : Int) = 3 by decide), if_neg (show ¬ (5 : Int) = 4 by decide), if_pos (show (5 : Int) = 5 by decide), xb_some, xg_pos (by decide), g1, xb_some]
    · obtain ⟨v, g1, g2, g3⟩ := on4_e (ln := 6) (x2 := 1000006) (n := n) hc h8 h9 hk hx (by decide) (by decide) hn
      refine ⟨v, g3, ?_⟩
      rw [show ((0 : Nat) : Int) = 0 from rfl, show ((6 : Nat) : Int) = 6 from rfl, show ((6 + 1 : Nat) : Int) = 7 from rfl, e_X4_lineOf_c6, e_X4_wordOf_4, if_neg (show ¬ (6 : Int) = 0 by decide), if_neg (show ¬ (6 : Int) = 1 by decide), if_neg (show ¬ (6 : Int) = 2 by decide), if_neg (show ¬ (6 : Int) = 3 by decide), if_neg (show ¬ (6 : Int) = 4 by decide), if_neg (show ¬ (6 : Int) = 5 by decide), if_pos (show (6 : Int) = 6 by decide), xb_some, xg_pos (by decide), g1, xb_some]
  · rcases (show ln = 7 ∨ ln = 8 ∨ ln = 9 ∨ ln = 10 ∨ ln = 11 ∨ ln = 12 by omega) with rfl | rfl | rfl | rfl | rfl | rfl
    · obtain ⟨v, g1, g2, g3⟩ := on3_e (ln := 7) (x2 := 1000007) (n := n) hc h8 h9 hk hx (by decide) (by decide) hn
      refine ⟨v, g3, ?_⟩
      rw [show ((1 : Nat) : Int) = 1 from rfl, show ((7 : Nat) : Int) = 7 from rfl, show ((7 + 1 : Nat) : Int) = 8 from rfl, e_X4_lineOf_c7, e_X4_wordOf_3, if_neg (show ¬ (7 : Int) = 0 by decide), if_neg (show ¬ (7 : Int) = 1 by decide), if_neg (show ¬ (7 : Int) = 2 by decide), if_neg (show ¬ (7 : Int) = 3 by decide), if_neg (show ¬ (7 : Int) = 4 by decide), if_neg (show ¬ (7 : Int) = 5 by decide), if_neg (show ¬ (7 : Int) = 6 by decide), if_pos (show (7 : Int) = 7 by decide), xb_some, xg_pos (by decide), g1, xb_some]
    · obtain ⟨v, g1, g2, g3⟩ := on5_e (ln := 8) (x2 := 1000008) (n := n) hc h8 h9 hk hx (by decide) (by decide) hn
      refine ⟨v, g3, ?_⟩
      rw [show ((1 : Nat) : Int) = 1 from rfl, show ((8 : Nat) : Int) = 8 from rfl, show ((8 + 1 : Nat) : Int) = 9 from rfl, e_X4_lineOf_c8, e_X4_wordOf_5, if_neg (show ¬ (8 : Int) = 0 by decide), if_neg (show ¬ (8 : Int) = 1 by decide), if_neg (show ¬ (8 : Int) = 2 by decide), if_neg (show ¬ (8 : Int) = 3 by decide), if_neg (show ¬ (8 : Int) = 4 by decide), if_neg (show ¬ (8 : Int) = 5 by decide), if_neg (show ¬ (8 : Int) = 6 by decide), if_neg (show ¬ (8 : Int) = 7 by decide), if_pos (show (8 : Int) = 8 by decide), xb_some, xg_pos (by decide), g1, xb_some]
    · obtain ⟨v, g1, g2, g3⟩ := on3_e (ln := 9) (x2 := 1000009) (n := n) hc h8 h9 hk hx (by decide) (by decide) hn
      refine ⟨v, g3, ?_⟩
      rw [show ((1 : Nat) : Int) = 1 from rfl, show ((9 : Nat) : Int) = 9 from rfl, show ((9 + 1 : Nat) : Int) = 10 from rfl, e_X4_lineOf_c9, e_X4_wordOf_3, if_neg (show ¬ (9 : Int) = 0 by decide), if_neg (show ¬ (9 : Int) = 1 by decide), if_neg (show ¬ (9 : Int) = 2 by decide), if_neg (show ¬ (9 : Int) = 3 by decide), if_neg (show ¬ (9 : Int) = 4 by decide), if_neg (show ¬ (9 : Int) = 5 by decide), if_neg (show ¬ (9 : Int) = 6 by decide), if_neg (show ¬ (9 : Int) = 7 by decide), if_neg (show ¬ (9 : Int) = 8 by decide), if_pos (show (9 : Int) = 9 by decide), xb_some, xg_pos (by decide), g1, xb_some]
    · obtain ⟨v, g1, g2, g3⟩ := on5_e (ln := 10) (x2 := 1000010) (n := n) hc h8 h9 hk hx (by decide) (by decide) hn
      refine ⟨v, g3, ?_⟩
      rw [show ((1 : Nat) : Int) = 1 from rfl, show ((10 : Nat) : Int) = 10 from rfl, show ((10 + 1 : Nat) : Int) = 11 from rfl, e_X4_lineOf_c10, e_X4_wordOf_5, if_neg (show ¬ (10 : Int) = 0 by decide), if_neg (show ¬ (10 : Int) = 1 by decide), if_neg (show ¬ (10 : Int) = 2 by decide), if_neg (show ¬ (10 : Int) = 3 by decide), if_neg (show ¬ (10 : Int) = 4 by decide), if_neg (show ¬ (10 : Int) = 5 by decide), if_neg (show ¬ (10 : Int) = 6 by decide), if_neg (show ¬ (10 : Int) = 7 by decide), if_neg (show ¬ (10 : Int) = 8 by decide), if_neg (show ¬ (10 : Int) = 9 by decide), if_pos (show (10 : Int) = 10 by decide), xb_some, xg_pos (by decide), g1, xb_some]
    · obtain ⟨v, g1, g2, g3⟩ := on3_e (ln := 11) (x2 := 1000011) (n := n) hc h8 h9 hk hx (by decide) (by decide) hn
      refine ⟨v, g3, ?_⟩
      rw [show ((1 : Nat) : Int) = 1 from rfl, show ((11 : Nat) : Int) = 11 from rfl, show ((11 + 1 : Nat) : Int) = 12 from rfl, e_X4_lineOf_c11, e_X4_wordOf_3, if_neg (show ¬ (11 : Int) = 0 by decide), if_neg (show ¬ (11 : Int) = 1 by decide), if_neg (show ¬ (11 : Int) = 2 by decide), if_neg (show ¬ (11 : Int) = 3 by decide), if_neg (show ¬ (11 : Int) = 4 by decide), if_neg (show ¬ (11 : Int) = 5 by decide), if_neg (show ¬ (11 : Int) = 6 by decide), if_neg (show ¬ (11 : Int) = 7 by decide), if_neg (show ¬ (11 : Int) = 8 by decide), if_neg (show ¬ (11 : Int) = 9 by decide), if_neg (show ¬ (11 : Int) = 10 by decide), if_pos (show (11 : Int) = 11 by decide), xb_some, xg_pos (by decide), g1, xb_some]
    · obtain ⟨v, g1, g2, g3⟩ := on4_e (ln := 12) (x2 := 1000012) (n := n) hc h8 h9 hk hx (by decide) (by decide) hn
      refine ⟨v, g3, ?_⟩
      rw [show ((1 : Nat) : Int) = 1 from rfl, show ((12 : Nat) : Int) = 12 from rfl, show ((12 + 1 : Nat) : Int) = 13 from rfl, e_X4_lineOf_c12, e_X4_wordOf_4, if_neg (show ¬ (12 : Int) = 0 by decide), if_neg (show ¬ (12 : Int) = 1 by decide), if_neg (show ¬ (12 : Int) = 2 by decide), if_neg (show ¬ (12 : Int) = 3 by decide), if_neg (show ¬ (12 : Int) = 4 by decide), if_neg (show ¬ (12 : Int) = 5 by decide), if_neg (show ¬ (12 : Int) = 6 by decide), if_neg (show ¬ (12 : Int) = 7 by decide), if_neg (show ¬ (12 : Int) = 8 by decide), if_neg (show ¬ (12 : Int) = 9 by decide), if_neg (show ¬ (12 : Int) = 10 by decide), if_neg (show ¬ (12 : Int) = 11 by decide), if_pos (show (12 : Int) = 12 by decide), xb_some, xg_pos (by decide), g1, xb_some]
  · rcases (show ln = 13 ∨ ln = 14 by omega) with rfl | rfl
    · obtain ⟨v, g1, g2, g3⟩ := on4_e (ln := 13) (x2 := 1000013) (n := n) hc h8 h9 hk hx (by decide) (by decide) hn
      refine ⟨v, g3, ?_⟩
      rw [show ((2 : Nat) : Int) = 2 from rfl, show ((13 : Nat) : Int) = 13 from rfl, show ((13 + 1 : Nat) : Int) = 14 from rfl, e_X4_lineOf_c13, e_X4_wordOf_4, if_neg (show ¬ (13 : Int) = 0 by decide), if_neg (show ¬ (13 : Int) = 1 by decide), if_neg (show ¬ (13 : Int) = 2 by decide), if_neg (show ¬ (13 : Int) = 3 by decide), if_neg (show ¬ (13 : Int) = 4 by decide), if_neg (show ¬ (13 : Int) = 5 by decide), if_neg (show ¬ (13 : Int) = 6 by decide), if_neg (show ¬ (13 : Int) = 7 by decide), if_neg (show ¬ (13 : Int) = 8 by decide), if_neg (show ¬ (13 : Int) = 9 by decide), if_neg (show ¬ (13 : Int) = 10 by decide), if_neg (show ¬ (13 : Int) = 11 by decide), if_neg (show ¬ (13 : Int) = 12 by decide), if_pos (show (13 : Int) = 13 by decide), xb_some, xg_pos (by decide), g1, xb_some]
    · obtain ⟨v, g1, g2, g3⟩ := on5_e (ln := 14) (x2 := 1000014) (n := n) hc h8 h9 hk hx (by decide) (by decide) hn
      refine ⟨v, g3, ?_⟩
      rw [show ((2 : Nat) : Int) = 2 from rfl, show ((14 : Nat) : Int) = 14 from rfl, show ((14 + 1 : Nat) : Int) = 15 from rfl, e_X4_lineOf_c14, e_X4_wordOf_5, if_neg (show ¬ (14 : Int) = 0 by decide), if_neg (show ¬ (14 : Int) = 1 by decide), if_neg (show ¬ (14 : Int) = 2 by decide), if_neg (show ¬ (14 : Int) = 3 by decide), if_neg (show ¬ (14 : Int) = 4 by decide), if_neg (show ¬ (14 : Int) = 5 by decide), if_neg (show ¬ (14 : Int) = 6 by decide), if_neg (show ¬ (14 : Int) = 7 by decide), if_neg (show ¬ (14 : Int) = 8 by decide), if_neg (show ¬ (14 : Int) = 9 by decide), if_neg (show ¬ (14 : Int) = 10 by decide), if_neg (show ¬ (14 : Int) = 11 by decide), if_neg (show ¬ (14 : Int) = 12 by decide), if_neg (show ¬ (14 : Int) = 13 by decide), xb_some, xg_pos (by decide), g1, xb_some]
theorem lnW_i : ∀ a b : Fin 15, lnW.getD a.val 0 = lnW.getD b.val 0 → a = b := by decide +kernel
theorem lineOf_l {u : Nat → Int} {N x of : Nat} {h : yH} (hof : of ≤ 2) (hc : cC u N h) (h8 : h 80 8 = (tkS u N x : Int)) (h9 : h 80 9 = (tkE u N x : Int)) (hk : tkK u N x = 2) (hx : x ≤ N) : ∀ (m ln n : Nat), 15 - ln = m → 10 + m < n → (zTv 0).getD of 0 ≤ (ln : Int) → (ln : Int) ≤ (zTv 0).getD (of + 1) 0 → (∀ j, j < ln → lnIn of j → lnW.getD j 0 ≠ tkW u N x) → xl_X4_lineOf n 6 [80, 4, (of : Int), (ln : Int)] h = some (if lnAt u N of x = 15 then -1 else (lnAt u N of x : Int), h) := by
  have w0 := tT0 ⟨of, by omega⟩
  simp only at w0
  have fin : ∀ ln n : Nat, (ln : Int) = (zTv 0).getD (of + 1) 0 → (∀ j, j < ln → lnIn of j → lnW.getD j 0 ≠ tkW u N x) → xl_X4_lineOf (n + 1) 6 [80, 4, (of : Int), (ln : Int)] h = some (if lnAt u N of x = 15 then -1 else (lnAt u N of x : Int), h) := by
    intro ln n e1 e2
    have z1 : (zTv 0).getD 1 0 = 7 := by decide +kernel
    have z2 : (zTv 0).getD 2 0 = 13 := by decide +kernel
    have z3 : (zTv 0).getD 3 0 = 15 := by decide +kernel
    have ez : xl_X4_lineOf (n + 1) 6 [80, 4, (of : Int), (ln : Int)] h = some (-1, h) := by
      rcases (show of = 0 ∨ of = 1 ∨ of = 2 by omega) with rfl | rfl | rfl
      · rw [show 0 + 1 = 1 from rfl, z1] at e1
        obtain rfl : ln = 7 := by omega
        exact e_X4_lineOf_z0
      · rw [show 1 + 1 = 2 from rfl, z2] at e1
        obtain rfl : ln = 13 := by omega
        exact e_X4_lineOf_z1
      · rw [show 2 + 1 = 3 from rfl, z3] at e1
        obtain rfl : ln = 15 := by omega
        exact e_X4_lineOf_z2
    rw [ez, if_pos]
    by_cases w : lnAt u N of x = 15
    · exact w
    · obtain ⟨-, g1, g2⟩ := lnAt_p w
      have := g1.2
      exact absurd g2 (e2 _ (by omega) g1)
  intro m
  induction m with
  | zero =>
    intro ln n h1 h2 h3 h4 h5
    obtain ⟨n, rfl⟩ : ∃ n', n = n' + 1 := ⟨n - 1, by omega⟩
    exact fin ln n (by omega) h5
  | succ m ih =>
    intro ln n h1 h2 h3 h4 h5
    obtain ⟨n, rfl⟩ : ∃ n', n = n' + 1 := ⟨n - 1, by omega⟩
    by_cases h6 : (ln : Int) = (zTv 0).getD (of + 1) 0
    · exact fin ln n h6 h5
    · obtain ⟨v, g1, g2⟩ := line_s (n := n) (ln := ln) hof hc h8 h9 hk hx ⟨h3, by omega⟩ (by omega)
      rw [g2]
      by_cases hv : v = 0
      · rw [if_pos hv]
        refine ih (ln + 1) n (by omega) (by omega) (by omega) (by omega) (fun j hj hi => ?_)
        by_cases e : j = ln
        · rw [e]; exact fun w => absurd hv (g1.mpr w)
        · exact h5 j (by omega) hi
      · rw [if_neg hv]
        have hm := g1.mp hv
        have hne : lnAt u N of x ≠ 15 := by
          intro w
          have := lnAt_n w (ln := ln) (by omega) ⟨h3, by omega⟩
          rw [if_pos hk] at this
          exact this hm.symm
        obtain ⟨-, k1, k2⟩ := lnAt_p hne
        have k3 := k1.2
        have hlt : lnAt u N of x < 15 := by omega
        have := lnW_i ⟨ln, by omega⟩ ⟨lnAt u N of x, hlt⟩ (by simp only; rw [hm, k2])
        have he : ln = lnAt u N of x := congrArg Fin.val this
        rw [if_neg hne, ← he]
theorem lineOf_e {u : Nat → Int} {N n x of : Nat} {h : yH} (hof : of ≤ 2) (hc : cC u N h) (h8 : h 80 8 = (tkS u N x : Int)) (h9 : h 80 9 = (tkE u N x : Int)) (hk : tkK u N x = 2) (hx : x ≤ N) (hn : 30 ≤ n) : f_X4_lineOf n [80, 4, (of : Int)] h = some (if lnAt u N of x = 15 then -1 else (lnAt u N of x : Int), h) := by
  have w0 := tT0 ⟨of, by omega⟩
  simp only at w0
  rw [e_X4_lineOf, xg_pos (by omega), show ((of : Int) + 0).toNat = of by omega]
  obtain ⟨f, hf⟩ : ∃ f : Nat, (zTv 0).getD of 0 = (f : Int) := ⟨((zTv 0).getD of 0).toNat, by omega⟩
  rw [hf]
  exact lineOf_l hof hc h8 h9 hk hx (15 - f) f n rfl (by omega) (by omega) (by omega) (fun j hj hi => by have := hi.1; omega)
/-! faults are noted -/
def cN (q : Int × Int) (h : yH) : yH := zup (zup h 80 3 q.1) 80 4 q.2
theorem cN_cN (q q2 : Int × Int) (h : yH) : cN q2 (cN q h) = cN q2 h := by
  funext b i
  unfold cN
  simp only [zup_app]
  split
  · rfl
  · split
    · rfl
    · rfl
theorem cN_self {q : Int × Int} {h : yH} (h3 : h 80 3 = q.1) (h4 : h 80 4 = q.2) : cN q h = h := by
  unfold cN
  rw [← h3, zup_self, ← h4, zup_self]
theorem cN_3 {q : Int × Int} {h : yH} : cN q h 80 3 = q.1 := by unfold cN; rw [zup_ne (by omega), zup_at]
theorem cN_4 {q : Int × Int} {h : yH} : cN q h 80 4 = q.2 := by unfold cN; rw [zup_at]
theorem cN_ne {q : Int × Int} {h : yH} {a j : Nat} (w : ¬ (a = 80 ∧ (j = 3 ∨ j = 4))) : cN q h a j = h a j := by unfold cN; rw [zup_ne (by omega), zup_ne (by omega)]
theorem cN_C {u : Nat → Int} {N : Nat} {q : Int × Int} {h : yH} (hc : cC u N h) : cC u N (cN q h) := (hc.up (by decide) (by decide) (by decide)).up (by decide) (by decide) (by decide)
theorem cN_P {q : Int × Int} {h : yH} (hc : cP h) : cP (cN q h) := (hc.up (by decide)).up (by decide)
theorem ntf {q : Int × Int} {c : Prop} {dc : Decidable c} {f p : Int} (h : ¬ c) : nt q c f p = q := nt_f h
theorem ntt {q : Int × Int} {c : Prop} {dc : Decidable c} {f p : Int} (h0 : q.1 = 0) (h : c) : nt q c f p = (f, p) := nt_t h0 h
theorem ntn {q : Int × Int} {c : Prop} {dc : Decidable c} {f p : Int} (h0 : ¬ q.1 = 0) : nt q c f p = q := nt_n h0
theorem note_e {n : Nat} {q : Int × Int} {f p : Int} {c : Prop} {dc : Decidable c} {h : yH} (hf : 0 ≤ f ∧ f ≤ 4) (hcc : c) : f_X4_note n [80, f, p] (cN q h) = some (0, cN (nt q c f p) h) := by
  rw [e_X4_note, cN_3]
  by_cases hq : q.1 = 0
  · rw [if_pos hq, xg_pos hf, ntt hq hcc]
    show some (0, cN (f, p) (cN q h)) = _
    rw [cN_cN]
  · rw [if_neg hq, ntn hq]
end
section
/-! the class: what is told, and a line is looked at -/
def cS (b : Nat) (t : Nat → Int) (h : yH) : Prop := h b 0 = t 0 ∧ h b 1 = t 1 ∧ h b 2 = t 2 ∧ h b 3 = t 3 ∧ h b 4 = t 4 ∧ h b 6 = t 5 ∧ h b 10 = t 6 ∧ h b 14 = t 49 ∧ (∀ i, i < 12 → h (b + 1) i = t (7 + i)) ∧
  (∀ k : Nat, (k : Int) < t 5 → h (b + 2) k = t (19 + 3 * k) ∧ h (b + 3) k = t (20 + 3 * k) ∧ h (b + 4) k = t (21 + 3 * k)) ∧
  (∀ k : Nat, (k : Int) < t 6 → h (b + 5) k = t (31 + 3 * k) ∧ h (b + 6) k = t (32 + 3 * k) ∧ h (b + 7) k = t (33 + 3 * k))
def cD (b : Nat) (t : Nat → Int) (h : yH) : Prop := h b 0 = t 0 ∧ ∀ k : Nat, (k : Int) < t 0 → h (b + 1) k = t (1 + 4 * k) ∧ h (b + 2) (3 * k) = t (2 + 4 * k) ∧ h (b + 2) (3 * k + 1) = t (3 + 4 * k) ∧ h (b + 2) (3 * k + 2) = t (4 + 4 * k)
def cQ (b : Nat) (t : Nat → Int) (h : yH) : Prop := h b 0 = t 0 ∧ h b 3 = t 1 ∧ (∀ k : Nat, (k : Int) < t 0 → h (b + 1) k = t (2 + 2 * k) ∧ h (b + 2) k = t (3 + 2 * k)) ∧ (∀ k : Nat, (k : Int) < t 1 → h (b + 3) k = t (20 + 2 * k) ∧ h (b + 4) k = t (21 + 2 * k))
def cR (of : Nat) (t : Nat → Int) (h : yH) : Prop := (of = 0 → cS 90 t h) ∧ (of = 1 → cD 100 t h) ∧ (of = 2 → cQ 110 t h)
theorem cS.fr {b : Nat} {t : Nat → Int} {h h2 : yH} (hs : cS b t h) (hf : ∀ a j, b ≤ a → a ≤ b + 7 → h2 a j = h a j) : cS b t h2 := by
  obtain ⟨h0, h1, h2', h3, h4, h5, h6, h7, h8, h9, h10⟩ := hs
  refine ⟨by rw [hf _ _ (by omega) (by omega)]; exact h0, by rw [hf _ _ (by omega) (by omega)]; exact h1, by rw [hf _ _ (by omega) (by omega)]; exact h2', by rw [hf _ _ (by omega) (by omega)]; exact h3, by rw [hf _ _ (by omega) (by omega)]; exact h4, by rw [hf _ _ (by omega) (by omega)]; exact h5, by rw [hf _ _ (by omega) (by omega)]; exact h6, by rw [hf _ _ (by omega) (by omega)]; exact h7, fun i hi => by rw [hf _ _ (by omega) (by omega)]; exact h8 i hi, fun k hk => ?_, fun k hk => ?_⟩
  · rw [hf _ _ (by omega) (by omega), hf _ _ (by omega) (by omega), hf _ _ (by omega) (by omega)]
    exact h9 k hk
  · rw [hf _ _ (by omega) (by omega), hf _ _ (by omega) (by omega), hf _ _ (by omega) (by omega)]
    exact h10 k hk
theorem cD.fr {b : Nat} {t : Nat → Int} {h h2 : yH} (hs : cD b t h) (hf : ∀ a j, b ≤ a → a ≤ b + 2 → h2 a j = h a j) : cD b t h2 := by
  obtain ⟨h0, h1⟩ := hs
  refine ⟨by rw [hf _ _ (by omega) (by omega)]; exact h0, fun k hk => ?_⟩
  rw [hf _ _ (by omega) (by omega), hf _ (3 * k) (by omega) (by omega), hf _ (3 * k + 1) (by omega) (by omega), hf _ (3 * k + 2) (by omega) (by omega)]
  exact h1 k hk
theorem cQ.fr {b : Nat} {t : Nat → Int} {h h2 : yH} (hs : cQ b t h) (hf : ∀ a j, b ≤ a → a ≤ b + 4 → h2 a j = h a j) : cQ b t h2 := by
  obtain ⟨h0, h1, h2', h3⟩ := hs
  refine ⟨by rw [hf _ _ (by omega) (by omega)]; exact h0, by rw [hf _ _ (by omega) (by omega)]; exact h1, fun k hk => ?_, fun k hk => ?_⟩
  · rw [hf _ _ (by omega) (by omega), hf _ _ (by omega) (by omega)]
    exact h2' k hk
  · rw [hf _ _ (by omega) (by omega), hf _ _ (by omega) (by omega)]
    exact h3 k hk
theorem cR.fr {of : Nat} {t : Nat → Int} {h h2 : yH} (hs : cR of t h) (hf : ∀ a j, 90 ≤ a → a ≤ 114 → h2 a j = h a j) : cR of t h2 :=
  ⟨fun e => (hs.1 e).fr (fun a j w1 w2 => hf a j (by omega) (by omega)), fun e => (hs.2.1 e).fr (fun a j w1 w2 => hf a j (by omega) (by omega)), fun e => (hs.2.2 e).fr (fun a j w1 w2 => hf a j (by omega) (by omega))⟩
theorem many_e {n of ln : Nat} {t : Nat → Int} {h : yH} (hof : of ≤ 2) (hi : lnIn of ln) (hP : cP h) (hr : cR of t h) (hW : tWf of t) : ∃ v, f_X4_isOneTooMany n [80, (ln : Int)] h = some (v, h) ∧ (v ≠ 0 ↔ lnAdds ln ∧ t (lnC ln) = lnM ln) := by
  have hln := lnIn_j hof hi
  rw [e_X4_isOneTooMany]
  unfold lnAdds lnC lnM
  by_cases c4 : ln = 4
  · subst c4
    have hS := hr.1 (by omega)
    have hw := hW.1 (by omega)
    obtain ⟨-, -, -, -, -, e5, -⟩ := hS
    obtain ⟨-, -, -, -, -, b5, -⟩ := hw
    rw [if_pos (by decide), xg_pos (hP.p (by decide)), e5]
    by_cases c : t 5 < 4
    · rw [if_pos c]
      exact ⟨0, rfl, fun w => absurd rfl w, fun w => by have := w.2; simp at this; omega⟩
    · rw [if_neg c]
      exact ⟨1, rfl, fun w => ⟨by omega, by simp; omega⟩, fun w => by decide⟩
  · rw [if_neg (show ¬ (ln : Int) = 4 by omega)]
    by_cases c5 : ln = 5
    · subst c5
      have hS := hr.1 (by omega)
      have hw := hW.1 (by omega)
      obtain ⟨-, -, -, -, -, -, e6, -⟩ := hS
      obtain ⟨-, -, -, -, -, -, b6, -⟩ := hw
      rw [if_pos (by decide), xg_pos (hP.p (by decide)), e6]
      by_cases c : t 6 < 6
      · rw [if_pos c]
        exact ⟨0, rfl, fun w => absurd rfl w, fun w => by have := w.2; simp at this; omega⟩
      · rw [if_neg c]
        exact ⟨1, rfl, fun w => ⟨by omega, by simp; omega⟩, fun w => by decide⟩
    · rw [if_neg (show ¬ (ln : Int) = 5 by omega)]
      by_cases c13 : ln = 13
      · subst c13
        have hS := hr.2.2 (by omega)
        have hw := hW.2.2 (by omega)
        obtain ⟨e0, -⟩ := hS
        obtain ⟨b0, -⟩ := hw
        rw [if_pos (by decide), xg_pos (hP.p (by decide)), e0]
        by_cases c : t 0 < 9
        · rw [if_pos c]
          exact ⟨0, rfl, fun w => absurd rfl w, fun w => by have := w.2; simp at this; omega⟩
        · rw [if_neg c]
          exact ⟨1, rfl, fun w => ⟨by omega, by simp; omega⟩, fun w => by decide⟩
      · rw [if_neg (show ¬ (ln : Int) = 13 by omega)]
        by_cases c14 : ln = 14
        · subst c14
          have hS := hr.2.2 (by omega)
          have hw := hW.2.2 (by omega)
          obtain ⟨-, e1, -⟩ := hS
          obtain ⟨-, b1, -⟩ := hw
          rw [if_pos (by decide), xg_pos (hP.p (by decide)), e1]
          by_cases c : t 1 < 16
          · rw [if_pos c]
            exact ⟨0, rfl, fun w => absurd rfl w, fun w => by have := w.2; simp at this; omega⟩
          · rw [if_neg c]
            exact ⟨1, rfl, fun w => ⟨by omega, by simp; omega⟩, fun w => by decide⟩
        · rw [if_neg (show ¬ (ln : Int) = 14 by omega)]
          by_cases c7 : ln < 7
          · rw [if_pos (by omega)]
            exact ⟨0, rfl, fun w => absurd rfl w, fun w => by have := w.1; omega⟩
          · have hS := hr.2.1 (by omega)
            have hw := hW.2.1 (by omega)
            obtain ⟨e0, -⟩ := hS
            obtain ⟨b0, -⟩ := hw
            rw [if_neg (by omega), if_neg (by omega), xg_pos (hP.p (by decide)), e0, if_neg c4, if_neg c5, if_neg c14, if_neg c4, if_neg c5, if_neg c13, if_neg c14]
            by_cases c : t 0 < 30
            · rw [if_pos c]
              exact ⟨0, rfl, fun w => absurd rfl w, fun w => by have := w.2; omega⟩
            · rw [if_neg c]
              exact ⟨1, rfl, fun w => ⟨by omega, by omega⟩, fun w => by decide⟩
theorem nt_iff {q : Int × Int} {c c2 : Prop} {dc : Decidable c} {dc2 : Decidable c2} {f p : Int} (h : c ↔ c2) : nt q c f p = nt q c2 f p := by
  by_cases hc : c
  · by_cases h0 : q.1 = 0
    · rw [ntt h0 hc, ntt h0 (h.mp hc)]
    · rw [ntn h0, ntn h0]
  · rw [ntf hc, ntf (fun w => hc (h.mpr w))]
theorem nt_nt {q : Int × Int} {c c2 : Prop} {dc : Decidable c} {dc2 : Decidable c2} {dc3 : Decidable (c ∨ c2)} {f p : Int} (hf : f ≠ 0) : nt (nt q c f p) c2 f p = nt q (c ∨ c2) f p := by
  by_cases h0 : q.1 = 0
  · by_cases hc : c
    · rw [ntt h0 hc, ntt h0 (Or.inl hc), ntn (q := (f, p)) hf]
    · rw [ntf hc]
      exact nt_iff ⟨Or.inr, fun w => w.resolve_left hc⟩
  · rw [ntn h0, ntn h0, ntn h0]
/-- the bounds alone -/
noncomputable def ntB (ln : Nat) (v p : Nat → Int) (q : Int × Int) : Nat → Int × Int
  | 0 => q
  | i + 1 => @nt (ntB ln v p q i) (¬ (lnL ln i ≤ v i ∧ v i ≤ lnH ln i)) (Classical.propDecidable _) 2 (p i)
def lnXt (ln : Nat) (v : Nat → Int) : Prop := (ln = 13 ∧ v 1 < v 0) ∨ (ln = 14 ∧ v 1 = v 0)
theorem lnN_b : ∀ ln : Fin 15, (zTv 1).getD ln.val 0 = (lnN ln.val : Int) ∧ lnN ln.val ≤ 5 := by decide +kernel
theorem ntB_L {ln : Nat} {v p : Nat → Int} {q : Int × Int} : ntL ln v p q (lnN ln) = @nt (ntB ln v p q (lnN ln)) (lnXt ln v) (Classical.propDecidable _) 2 (p 1) := by
  by_cases c : ln = 13 ∨ ln = 14
  · have hN : lnN ln = 2 := by
      rcases c with rfl | rfl
      · decide +kernel
      · decide +kernel
    rw [hN]
    have e1 : ntL ln v p q 1 = ntB ln v p q 1 := by
      show @nt q (lnB ln v 0) (Classical.propDecidable _) 2 (p 0) = @nt q (¬ (lnL ln 0 ≤ v 0 ∧ v 0 ≤ lnH ln 0)) (Classical.propDecidable _) 2 (p 0)
      refine nt_iff ⟨fun w => ?_, fun w => Or.inl w⟩
      rcases w with w | w | w
      · exact w
      · exact absurd w.2.1 (by decide)
      · exact absurd w.2.1 (by decide)
    show @nt (ntL ln v p q 1) (lnB ln v 1) (Classical.propDecidable _) 2 (p 1) = @nt (@nt (ntB ln v p q 1) (¬ (lnL ln 1 ≤ v 1 ∧ v 1 ≤ lnH ln 1)) (Classical.propDecidable _) 2 (p 1)) (lnXt ln v) (Classical.propDecidable _) 2 (p 1)
    rw [e1, nt_nt (dc3 := Classical.propDecidable _) (by decide)]
    exact nt_iff ⟨fun w => by unfold lnB at w; unfold lnXt; omega, fun w => by unfold lnB; unfold lnXt at w; omega⟩
  · have : ∀ k, ntL ln v p q k = ntB ln v p q k := by
      intro k
      induction k with
      | zero => rfl
      | succ k ih =>
        unfold ntL ntB
        rw [ih]
        exact nt_iff ⟨fun w => by unfold lnB at w; omega, fun w => Or.inl w⟩
    rw [this, ntf (fun w => by unfold lnXt at w; omega)]
theorem check_132 {n : Nat} {q : Int × Int} {g : yH} {x1 x2 x3 y0 : Int} {c : Prop} {dc : Decidable c} (hP : cP g) (hc : c ↔ ¬ (x3 = 0 ∧ y0 = 0)) : xq_X4_checkLine_132 n (xl_X4_checkLine n) [80, x1, x2, x3, y0] (cN q g) = some (0, cN (nt q c 2 (g 121 1)) g) := by
  rw [e_X4_checkLine_132]
  have e121 : cN q g 121 1 = g 121 1 := cN_ne (by omega)
  by_cases w1 : x3 = 0
  · rw [if_pos w1]
    by_cases w2 : y0 = 0
    · rw [if_pos w2, ntf (fun w => hc.mp w ⟨w1, w2⟩)]
    · rw [if_neg w2, xg_pos ((cN_P hP).p (by decide)), e121, note_e (c := c) (by decide) (hc.mpr (fun w => w2 w.2)), xb_some]
  · rw [if_neg w1, xg_pos ((cN_P hP).p (by decide)), e121, note_e (c := c) (by decide) (hc.mpr (fun w => w1 w.1)), xb_some]
theorem check_l {ln : Nat} {st : Int} {q : Int × Int} {g : yH} (hl : ln < 15) (hP : cP g) : ∀ (m i n : Nat), lnN ln - i = m → i ≤ lnN ln → m < n → xl_X4_checkLine n 16 [80, (ln : Int), st, (i : Int)] (cN (ntB ln (g 120) (g 121) q i) g) = some (0, cN (ntL ln (g 120) (g 121) q (lnN ln)) g) := by
  obtain ⟨b1, b2⟩ := lnN_b ⟨ln, hl⟩
  simp only at b1 b2
  have z : ((ln : Int) + 0).toNat = ln := by omega
  intro m
  induction m with
  | zero =>
    intro i n h1 h2 h3
    obtain ⟨n, rfl⟩ : ∃ n', n = n' + 1 := ⟨n - 1, by omega⟩
    have hi : i = lnN ln := by omega
    subst hi
    generalize hQ : ntB ln (g 120) (g 121) q (lnN ln) = Q
    have e1 : cN Q g 120 1 = g 120 1 := cN_ne (by omega)
    have e0 : cN Q g 120 0 = g 120 0 := cN_ne (by omega)
    rw [e_X4_checkLine_16, xg_pos (by omega), z, b1, if_neg (by omega), ntB_L, hQ]
    by_cases c13 : ln = 13
    · rw [if_pos (by omega), xg_pos ((cN_P hP).p (by decide)), xg_pos ((cN_P hP).p (by decide)), e1, e0]
      by_cases cc : g 120 1 < g 120 0
      · rw [if_pos cc, e_X4_checkLine_105, if_neg (by omega)]
        exact @check_132 _ _ _ _ _ _ _ _ (Classical.propDecidable _) hP ⟨fun _ w => by omega, fun _ => Or.inl ⟨c13, cc⟩⟩
      · rw [if_neg cc, e_X4_checkLine_105, if_neg (by omega)]
        exact @check_132 _ _ _ _ _ _ _ _ (Classical.propDecidable _) hP ⟨fun w => by unfold lnXt at w; omega, fun w => absurd ⟨rfl, rfl⟩ w⟩
    · rw [if_neg (by omega), e_X4_checkLine_105]
      by_cases c14 : ln = 14
      · rw [if_pos (by omega), xg_pos ((cN_P hP).p (by decide)), xg_pos ((cN_P hP).p (by decide)), e1, e0]
        by_cases cc : g 120 1 = g 120 0
        · rw [if_pos cc]
          exact @check_132 _ _ _ _ _ _ _ _ (Classical.propDecidable _) hP ⟨fun _ w => by omega, fun _ => Or.inr ⟨c14, cc⟩⟩
        · rw [if_neg cc]
          exact @check_132 _ _ _ _ _ _ _ _ (Classical.propDecidable _) hP ⟨fun w => by unfold lnXt at w; omega, fun w => absurd ⟨rfl, rfl⟩ w⟩
      · rw [if_neg (by omega)]
        exact @check_132 _ _ _ _ _ _ _ _ (Classical.propDecidable _) hP ⟨fun w => by unfold lnXt at w; omega, fun w => absurd ⟨rfl, rfl⟩ w⟩
  | succ m ih =>
    intro i n h1 h2 h3
    obtain ⟨n, rfl⟩ : ∃ n', n = n' + 1 := ⟨n - 1, by omega⟩
    have ih2 := ih (i + 1) n (by omega) (by omega) (by omega)
    have hnx : ntB ln (g 120) (g 121) q (i + 1) = @nt (ntB ln (g 120) (g 121) q i) (¬ (lnL ln i ≤ g 120 i ∧ g 120 i ≤ lnH ln i)) (Classical.propDecidable _) 2 (g 121 i) := rfl
    rw [hnx] at ih2
    clear hnx ih
    generalize hQ : ntB ln (g 120) (g 121) q i = Q at *
    have e1 : cN Q g 120 i = g 120 i := cN_ne (by omega)
    have e0 : cN Q g 121 i = g 121 i := cN_ne (by omega)
    have z5 : (5 * (ln : Int) + (i : Int) + 0).toNat = 5 * ln + i := by omega
    have zi : (i : Int) + 1 = ((i + 1 : Nat) : Int) := by omega
    rw [e_X4_checkLine_16, xg_pos (by omega), z, b1, if_pos (by omega), xg_pos (by omega), xg_pos (by omega), xg_pos ((cN_P hP).p (by decide)), xg_pos (by omega), xg_pos (by omega), z5, Int.toNat_natCast, e1, e0, zi]
    have hL : (zTv 2).getD (5 * ln + i) 0 = lnL ln i := rfl
    have hH : (zTv 3).getD (5 * ln + i) 0 = lnH ln i := rfl
    rw [hL, hH]
    by_cases cL : g 120 i < lnL ln i
    · rw [if_pos cL, xg_pos ((cN_P hP).p (by decide)), xg_pos (by omega), @note_e _ _ _ _ _ (Classical.propDecidable _) _ (by decide) (show ¬ (lnL ln i ≤ g 120 i ∧ g 120 i ≤ lnH ln i) by omega), xb_some, xg_pos (by omega)]
      exact ih2
    · rw [if_neg cL, xg_pos ((cN_P hP).p (by decide)), xg_pos (by omega), xg_pos (by omega)]
      by_cases cH : lnH ln i < g 120 i
      · rw [if_pos cH, xg_pos ((cN_P hP).p (by decide)), xg_pos (by omega), @note_e _ _ _ _ _ (Classical.propDecidable _) _ (by decide) (show ¬ (lnL ln i ≤ g 120 i ∧ g 120 i ≤ lnH ln i) by omega), xb_some, xg_pos (by omega)]
        exact ih2
      · rw [if_neg cH, xg_pos (by omega)]
        rw [ntf (by omega)] at ih2
        exact ih2
/-- checkLine: the first fault of a line is noted -/
theorem check_e {n of ln : Nat} {t : Nat → Int} {st : Int} {q : Int × Int} {g : yH} (hof : of ≤ 2) (hi : lnIn of ln) (hl : ln < 15) (hP : cP g) (hr : cR of t g) (hW : tWf of t) (hn : 10 ≤ n) : f_X4_checkLine n [80, (ln : Int), st] (cN q g) = some (0, cN (ntL ln (g 120) (g 121) (@nt q (lnAdds ln ∧ t (lnC ln) = lnM ln) (Classical.propDecidable _) 3 st) (lnN ln)) g) := by
  have hb := (lnN_b ⟨ln, hl⟩).2
  simp only at hb
  obtain ⟨v, g1, g2⟩ := many_e (n := n) (h := cN q g) hof hi (cN_P hP) (hr.fr (fun a j w1 w2 => cN_ne (by omega))) hW
  rw [e_X4_checkLine, g1, xb_some]
  by_cases hv : v = 0
  · rw [if_pos hv, ntf (fun w => absurd hv (g2.mpr w))]
    exact check_l hl hP (lnN ln) 0 n rfl (by omega) (by omega)
  · rw [if_neg hv, @note_e _ _ _ _ _ (Classical.propDecidable _) _ (by decide) (g2.mp hv), xb_some]
    exact check_l hl hP (lnN ln) 0 n rfl (by omega) (by omega)
end
section
/-! the class: a line is taken -/
def cZ (a j : Nat) : Prop := (a = 90 ∧ (j = 0 ∨ j = 1 ∨ j = 2 ∨ j = 3 ∨ j = 4 ∨ j = 6 ∨ j = 10 ∨ j = 14)) ∨ (91 ≤ a ∧ a ≤ 97) ∨ (a = 100 ∧ j = 0) ∨ (101 ≤ a ∧ a ≤ 102) ∨ (a = 110 ∧ (j = 0 ∨ j = 3)) ∨ (111 ≤ a ∧ a ≤ 114)
theorem cZ_F {a j : Nat} (h : cF a j = true) : ¬ cZ a j := by
  have H : ∀ p ∈ cPL, ¬ ((p.1 = 90 ∧ (p.2.1 = 0 ∨ p.2.1 = 1 ∨ p.2.1 = 2 ∨ p.2.1 = 3 ∨ p.2.1 = 4 ∨ p.2.1 = 6 ∨ p.2.1 = 10 ∨ p.2.1 = 14)) ∨ (91 ≤ p.1 ∧ p.1 ≤ 97) ∨ (p.1 = 100 ∧ p.2.1 = 0) ∨ (101 ≤ p.1 ∧ p.1 ≤ 102) ∨ (p.1 = 110 ∧ (p.2.1 = 0 ∨ p.2.1 = 3)) ∨ (111 ≤ p.1 ∧ p.1 ≤ 114)) := by decide +kernel
  obtain ⟨p, hp, e⟩ := List.any_eq_true.mp h
  have e1 : p.1 = a ∧ p.2.1 = j := by simpa using e
  have := H p hp
  rw [e1.1, e1.2] at this
  exact this
theorem zcy_app (h : yH) (ds sr sp dp n a j : Nat) : zcy h ds sr sp dp n a j = if a = ds ∧ dp ≤ j ∧ j < dp + n then h sr (sp + (j - dp)) else h a j := by
  unfold zcy
  by_cases c : a = ds
  · subst c
    rw [zrow_at]
    unfold va_cpy
    by_cases c2 : dp ≤ j ∧ j < dp + n
    · rw [if_pos c2, if_pos ⟨rfl, c2⟩]
    · rw [if_neg c2, if_neg (fun w => c2 w.2)]
  · rw [zrow_ne c, if_neg (fun w => c w.1)]
theorem take_0 {n : Nat} {t : Nat → Int} {g : yH} (hP : cP g) (hS : cS 90 t g) (hW : tW0 t) (hB : ∀ i, i < lnN 0 → ¬ lnB 0 (g 120) i) : ∃ h2, f_X4_takeLine n [80, ((0 : Nat) : Int)] g = some (0, h2) ∧ cS 90 (lnT 0 (g 120) t) h2 ∧ ∀ a j, ¬ cZ a j → h2 a j = g a j := by
  have b0 := lnG (hB 0 (by decide +kernel)) (lo := 2) (hi := 8) (by decide +kernel) (by decide +kernel)
  have b1 := lnG (hB 1 (by decide +kernel)) (lo := 2) (hi := 8) (by decide +kernel) (by decide +kernel)
  obtain ⟨a0, a1, a2, a3, a4, a5, a6, a7, a8, a9, a10⟩ := hS
  have hw5 : 0 ≤ t 5 ∧ t 5 ≤ 4 := hW.2.2.2.2.2.1
  have hw6 : 0 ≤ t 6 ∧ t 6 ≤ 6 := hW.2.2.2.2.2.2.1
  rw [e_X4_takeLine, if_pos (show ((0 : Nat) : Int) = 0 by decide), e_X4_takeLine_76, xg_pos (hP.p (by decide)), xg_pos (hP.p (by decide)), xg_pos (by omega), xg_pos (hP.p (by decide)), xg_pos (hP.p (by decide)), xg_pos (by omega)]
  have et : lnT 0 (g 120) t = tU (tU t 0 (g 120 0)) 1 (g 120 1) := rfl
  have hne : ∀ a j, ¬ (a = 90 ∧ (j = 0 ∨ j = 1)) → (zup (zup g 90 0 (g 120 0)) 90 1 (g 120 1)) a j = g a j := fun a j w => by rw [zup_ne (by omega), zup_ne (by omega)]
  have tne : ∀ i, ¬ (i = 0 ∨ i = 1) → (tU (tU t 0 (g 120 0)) 1 (g 120 1)) i = t i := fun i w => by rw [tU_ne (by omega), tU_ne (by omega)]
  rw [et]
  refine ⟨_, rfl, ⟨by rw [zup_ne (by omega), zup_at, tU_ne (by omega), tU_at], by rw [zup_at, tU_at], by rw [hne _ _ (by omega), tne _ (by omega)]; exact a2, by rw [hne _ _ (by omega), tne _ (by omega)]; exact a3, by rw [hne _ _ (by omega), tne _ (by omega)]; exact a4, by rw [hne _ _ (by omega), tne _ (by omega)]; exact a5, by rw [hne _ _ (by omega), tne _ (by omega)]; exact a6, by rw [hne _ _ (by omega), tne _ (by omega)]; exact a7, fun i hi => by rw [hne _ _ (by omega), tne _ (by omega)]; exact a8 i hi, fun k hk => by rw [tne _ (by omega)] at hk; rw [hne _ _ (by omega), hne _ _ (by omega), hne _ _ (by omega), tne _ (by omega), tne _ (by omega), tne _ (by omega)]; exact a9 k hk, fun k hk => by rw [tne _ (by omega)] at hk; rw [hne _ _ (by omega), hne _ _ (by omega), hne _ _ (by omega), tne _ (by omega), tne _ (by omega), tne _ (by omega)]; exact a10 k hk⟩, fun a j w => hne a j (fun w2 => w (by unfold cZ; omega))⟩
theorem take_1 {n : Nat} {t : Nat → Int} {g : yH} (hP : cP g) (hS : cS 90 t g) (hW : tW0 t) (hB : ∀ i, i < lnN 1 → ¬ lnB 1 (g 120) i) : ∃ h2, f_X4_takeLine n [80, ((1 : Nat) : Int)] g = some (0, h2) ∧ cS 90 (lnT 1 (g 120) t) h2 ∧ ∀ a j, ¬ cZ a j → h2 a j = g a j := by
  have b0 := lnG (hB 0 (by decide +kernel)) (lo := 0) (hi := 3) (by decide +kernel) (by decide +kernel)
  have b1 := lnG (hB 1 (by decide +kernel)) (lo := 0) (hi := 3) (by decide +kernel) (by decide +kernel)
  obtain ⟨a0, a1, a2, a3, a4, a5, a6, a7, a8, a9, a10⟩ := hS
  have hw5 : 0 ≤ t 5 ∧ t 5 ≤ 4 := hW.2.2.2.2.2.1
  have hw6 : 0 ≤ t 6 ∧ t 6 ≤ 6 := hW.2.2.2.2.2.2.1
  rw [e_X4_takeLine, if_neg (show ¬ ((1 : Nat) : Int) = 0 by decide), if_pos (show ((1 : Nat) : Int) = 1 by decide), e_X4_takeLine_105, xg_pos (hP.p (by decide)), xg_pos (hP.p (by decide)), xg_pos (by omega), xg_pos (hP.p (by decide)), xg_pos (hP.p (by decide))]
  have et : lnT 1 (g 120) t = tU (tU t 2 (g 120 0)) 3 (g 120 1) := rfl
  have hne : ∀ a j, ¬ (a = 90 ∧ (j = 2 ∨ j = 3)) → (zup (zup g 90 2 (g 120 0)) 90 3 (g 120 1)) a j = g a j := fun a j w => by rw [zup_ne (by omega), zup_ne (by omega)]
  have tne : ∀ i, ¬ (i = 2 ∨ i = 3) → (tU (tU t 2 (g 120 0)) 3 (g 120 1)) i = t i := fun i w => by rw [tU_ne (by omega), tU_ne (by omega)]
  rw [et]
  refine ⟨_, rfl, ⟨by rw [hne _ _ (by omega), tne _ (by omega)]; exact a0, by rw [hne _ _ (by omega), tne _ (by omega)]; exact a1, by rw [zup_ne (by omega), zup_at, tU_ne (by omega), tU_at], by rw [zup_at, tU_at], by rw [hne _ _ (by omega), tne _ (by omega)]; exact a4, by rw [hne _ _ (by omega), tne _ (by omega)]; exact a5, by rw [hne _ _ (by omega), tne _ (by omega)]; exact a6, by rw [hne _ _ (by omega), tne _ (by omega)]; exact a7, fun i hi => by rw [hne _ _ (by omega), tne _ (by omega)]; exact a8 i hi, fun k hk => by rw [tne _ (by omega)] at hk; rw [hne _ _ (by omega), hne _ _ (by omega), hne _ _ (by omega), tne _ (by omega), tne _ (by omega), tne _ (by omega)]; exact a9 k hk, fun k hk => by rw [tne _ (by omega)] at hk; rw [hne _ _ (by omega), hne _ _ (by omega), hne _ _ (by omega), tne _ (by omega), tne _ (by omega), tne _ (by omega)]; exact a10 k hk⟩, fun a j w => hne a j (fun w2 => w (by unfold cZ; omega))⟩
theorem take_2 {n : Nat} {t : Nat → Int} {g : yH} (hP : cP g) (hS : cS 90 t g) (hW : tW0 t) (hB : ∀ i, i < lnN 2 → ¬ lnB 2 (g 120) i) : ∃ h2, f_X4_takeLine n [80, ((2 : Nat) : Int)] g = some (0, h2) ∧ cS 90 (lnT 2 (g 120) t) h2 ∧ ∀ a j, ¬ cZ a j → h2 a j = g a j := by
  have b0 := lnG (hB 0 (by decide +kernel)) (lo := 1) (hi := 9) (by decide +kernel) (by decide +kernel)
  obtain ⟨a0, a1, a2, a3, a4, a5, a6, a7, a8, a9, a10⟩ := hS
  have hw5 : 0 ≤ t 5 ∧ t 5 ≤ 4 := hW.2.2.2.2.2.1
  have hw6 : 0 ≤ t 6 ∧ t 6 ≤ 6 := hW.2.2.2.2.2.2.1
  rw [e_X4_takeLine, if_neg (show ¬ ((2 : Nat) : Int) = 0 by decide), if_neg (show ¬ ((2 : Nat) : Int) = 1 by decide), if_pos (show ((2 : Nat) : Int) = 2 by decide), e_X4_takeLine_134, xg_pos (hP.p (by decide)), xg_pos (hP.p (by decide))]
  have et : lnT 2 (g 120) t = tU t 4 (g 120 0) := rfl
  have hne : ∀ a j, ¬ (a = 90 ∧ j = 4) → (zup g 90 4 (g 120 0)) a j = g a j := fun a j w => by rw [zup_ne (by omega)]
  have tne : ∀ i, ¬ (i = 4) → (tU t 4 (g 120 0)) i = t i := fun i w => by rw [tU_ne (by omega)]
  rw [et]
  refine ⟨_, rfl, ⟨by rw [hne _ _ (by omega), tne _ (by omega)]; exact a0, by rw [hne _ _ (by omega), tne _ (by omega)]; exact a1, by rw [hne _ _ (by omega), tne _ (by omega)]; exact a2, by rw [hne _ _ (by omega), tne _ (by omega)]; exact a3, by rw [zup_at, tU_at], by rw [hne _ _ (by omega), tne _ (by omega)]; exact a5, by rw [hne _ _ (by omega), tne _ (by omega)]; exact a6, by rw [hne _ _ (by omega), tne _ (by omega)]; exact a7, fun i hi => by rw [hne _ _ (by omega), tne _ (by omega)]; exact a8 i hi, fun k hk => by rw [tne _ (by omega)] at hk; rw [hne _ _ (by omega), hne _ _ (by omega), hne _ _ (by omega), tne _ (by omega), tne _ (by omega), tne _ (by omega)]; exact a9 k hk, fun k hk => by rw [tne _ (by omega)] at hk; rw [hne _ _ (by omega), hne _ _ (by omega), hne _ _ (by omega), tne _ (by omega), tne _ (by omega), tne _ (by omega)]; exact a10 k hk⟩, fun a j w => hne a j (fun w2 => w (by unfold cZ; omega))⟩
theorem take_6 {n : Nat} {t : Nat → Int} {g : yH} (hP : cP g) (hS : cS 90 t g) (hW : tW0 t) (hB : ∀ i, i < lnN 6 → ¬ lnB 6 (g 120) i) : ∃ h2, f_X4_takeLine n [80, ((6 : Nat) : Int)] g = some (0, h2) ∧ cS 90 (lnT 6 (g 120) t) h2 ∧ ∀ a j, ¬ cZ a j → h2 a j = g a j := by
  have b0 := lnG (hB 0 (by decide +kernel)) (lo := 0) (hi := 5) (by decide +kernel) (by decide +kernel)
  obtain ⟨a0, a1, a2, a3, a4, a5, a6, a7, a8, a9, a10⟩ := hS
  have hw5 : 0 ≤ t 5 ∧ t 5 ≤ 4 := hW.2.2.2.2.2.1
  have hw6 : 0 ≤ t 6 ∧ t 6 ≤ 6 := hW.2.2.2.2.2.2.1
  rw [e_X4_takeLine, if_neg (show ¬ ((6 : Nat) : Int) = 0 by decide), if_neg (show ¬ ((6 : Nat) : Int) = 1 by decide), if_neg (show ¬ ((6 : Nat) : Int) = 2 by decide), if_neg (show ¬ ((6 : Nat) : Int) = 3 by decide), if_neg (show ¬ ((6 : Nat) : Int) = 4 by decide), if_neg (show ¬ ((6 : Nat) : Int) = 5 by decide), if_pos (show ((6 : Nat) : Int) = 6 by decide), e_X4_takeLine_233, xg_pos (hP.p (by decide)), xg_pos (hP.p (by decide))]
  have et : lnT 6 (g 120) t = tU t 49 (yari 8 (t 49) (yari 5 1 (g 120 0))) := rfl
  have hne : ∀ a j, ¬ (a = 90 ∧ j = 14) → (zup g 90 14 (yari 8 (g 90 14) (yari 5 1 (g 120 0)))) a j = g a j := fun a j w => by rw [zup_ne (by omega)]
  have tne : ∀ i, ¬ (i = 49) → (tU t 49 (yari 8 (t 49) (yari 5 1 (g 120 0)))) i = t i := fun i w => by rw [tU_ne (by omega)]
  rw [et]
  refine ⟨_, rfl, ⟨by rw [hne _ _ (by omega), tne _ (by omega)]; exact a0, by rw [hne _ _ (by omega), tne _ (by omega)]; exact a1, by rw [hne _ _ (by omega), tne _ (by omega)]; exact a2, by rw [hne _ _ (by omega), tne _ (by omega)]; exact a3, by rw [hne _ _ (by omega), tne _ (by omega)]; exact a4, by rw [hne _ _ (by omega), tne _ (by omega)]; exact a5, by rw [hne _ _ (by omega), tne _ (by omega)]; exact a6, by rw [zup_at, tU_at, a7], fun i hi => by rw [hne _ _ (by omega), tne _ (by omega)]; exact a8 i hi, fun k hk => by rw [tne _ (by omega)] at hk; rw [hne _ _ (by omega), hne _ _ (by omega), hne _ _ (by omega), tne _ (by omega), tne _ (by omega), tne _ (by omega)]; exact a9 k hk, fun k hk => by rw [tne _ (by omega)] at hk; rw [hne _ _ (by omega), hne _ _ (by omega), hne _ _ (by omega), tne _ (by omega), tne _ (by omega), tne _ (by omega)]; exact a10 k hk⟩, fun a j w => hne a j (fun w2 => w (by unfold cZ; omega))⟩
theorem take_3 {n : Nat} {t : Nat → Int} {g : yH} (hP : cP g) (hS : cS 90 t g) (hW : tW0 t) (hB : ∀ i, i < lnN 3 → ¬ lnB 3 (g 120) i) : ∃ h2, f_X4_takeLine n [80, ((3 : Nat) : Int)] g = some (0, h2) ∧ cS 90 (lnT 3 (g 120) t) h2 ∧ ∀ a j, ¬ cZ a j → h2 a j = g a j := by
  have b0 := lnG (hB 0 (by decide +kernel)) (lo := 0) (hi := 2) (by decide +kernel) (by decide +kernel)
  obtain ⟨a0, a1, a2, a3, a4, a5, a6, a7, a8, a9, a10⟩ := hS
  have hw5 : 0 ≤ t 5 ∧ t 5 ≤ 4 := hW.2.2.2.2.2.1
  have hw6 : 0 ≤ t 6 ∧ t 6 ≤ 6 := hW.2.2.2.2.2.2.1
  rw [e_X4_takeLine, if_neg (show ¬ ((3 : Nat) : Int) = 0 by decide), if_neg (show ¬ ((3 : Nat) : Int) = 1 by decide), if_neg (show ¬ ((3 : Nat) : Int) = 2 by decide), if_pos (show ((3 : Nat) : Int) = 3 by decide), e_X4_takeLine_150, xg_pos (hP.p (by decide)), xg_pos (hP.p (by decide)), xg_pos (hP.p (by decide)), xg_pos (hP.p (by decide)), xg_pos (by omega), xg_pos (by omega)]
  have et : lnT 3 (g 120) t = tU (tU (tU (tU t (7 + 4 * (g 120 0).toNat) (g 120 1)) (7 + 4 * (g 120 0).toNat + 1) (g 120 2)) (7 + 4 * (g 120 0).toNat + 2) (g 120 3)) (7 + 4 * (g 120 0).toNat + 3) (g 120 4) := rfl
  have hne : ∀ a j, ¬ (a = 91 ∧ (4 * (g 120 0)).toNat ≤ j ∧ j < (4 * (g 120 0)).toNat + 4) → (zcy g 91 120 1 (4 * (g 120 0)).toNat 4) a j = g a j := fun a j w => by rw [zcy_app, if_neg (by omega)]
  have tne : ∀ i, ¬ (7 + 4 * (g 120 0).toNat ≤ i ∧ i < 11 + 4 * (g 120 0).toNat) → (tU (tU (tU (tU t (7 + 4 * (g 120 0).toNat) (g 120 1)) (7 + 4 * (g 120 0).toNat + 1) (g 120 2)) (7 + 4 * (g 120 0).toNat + 2) (g 120 3)) (7 + 4 * (g 120 0).toNat + 3) (g 120 4)) i = t i := fun i w => by rw [tU_ne (by omega), tU_ne (by omega), tU_ne (by omega), tU_ne (by omega)]
  rw [et]
  refine ⟨_, rfl, ⟨by rw [hne _ _ (by omega), tne _ (by omega)]; exact a0, by rw [hne _ _ (by omega), tne _ (by omega)]; exact a1, by rw [hne _ _ (by omega), tne _ (by omega)]; exact a2, by rw [hne _ _ (by omega), tne _ (by omega)]; exact a3, by rw [hne _ _ (by omega), tne _ (by omega)]; exact a4, by rw [hne _ _ (by omega), tne _ (by omega)]; exact a5, by rw [hne _ _ (by omega), tne _ (by omega)]; exact a6, by rw [hne _ _ (by omega), tne _ (by omega)]; exact a7, fun i hi => by
    by_cases w : (4 * (g 120 0)).toNat ≤ i ∧ i < (4 * (g 120 0)).toNat + 4
    · rw [zcy_app, if_pos ⟨rfl, w⟩]
      rcases (show i = 4 * (g 120 0).toNat ∨ i = 4 * (g 120 0).toNat + 1 ∨ i = 4 * (g 120 0).toNat + 2 ∨ i = 4 * (g 120 0).toNat + 3 by omega) with e | e | e | e
      · rw [show 7 + i = 7 + 4 * (g 120 0).toNat by omega, tU_ne (by omega), tU_ne (by omega), tU_ne (by omega), tU_at, show 1 + (i - (4 * (g 120 0)).toNat) = 1 by omega]
      · rw [show 7 + i = 7 + 4 * (g 120 0).toNat + 1 by omega, tU_ne (by omega), tU_ne (by omega), tU_at, show 1 + (i - (4 * (g 120 0)).toNat) = 2 by omega]
      · rw [show 7 + i = 7 + 4 * (g 120 0).toNat + 2 by omega, tU_ne (by omega), tU_at, show 1 + (i - (4 * (g 120 0)).toNat) = 3 by omega]
      · rw [show 7 + i = 7 + 4 * (g 120 0).toNat + 3 by omega, tU_at, show 1 + (i - (4 * (g 120 0)).toNat) = 4 by omega]
    · rw [hne _ _ (by omega), tne _ (by omega)]
      exact a8 i hi, fun k hk => by rw [tne _ (by omega)] at hk; rw [hne _ _ (by omega), hne _ _ (by omega), hne _ _ (by omega), tne _ (by omega), tne _ (by omega), tne _ (by omega)]; exact a9 k hk, fun k hk => by rw [tne _ (by omega)] at hk; rw [hne _ _ (by omega), hne _ _ (by omega), hne _ _ (by omega), tne _ (by omega), tne _ (by omega), tne _ (by omega)]; exact a10 k hk⟩, fun a j w => hne a j (fun w2 => w (by unfold cZ; omega))⟩
theorem take_4 {n : Nat} {t : Nat → Int} {g : yH} (hP : cP g) (hS : cS 90 t g) (hW : tW0 t) (hM : t 5 ≠ 4) (hB : ∀ i, i < lnN 4 → ¬ lnB 4 (g 120) i) : ∃ h2, f_X4_takeLine n [80, ((4 : Nat) : Int)] g = some (0, h2) ∧ cS 90 (lnT 4 (g 120) t) h2 ∧ ∀ a j, ¬ cZ a j → h2 a j = g a j := by
  obtain ⟨a0, a1, a2, a3, a4, a5, a6, a7, a8, a9, a10⟩ := hS
  have hw5 : 0 ≤ t 5 ∧ t 5 ≤ 4 := hW.2.2.2.2.2.1
  have hw6 : 0 ≤ t 6 ∧ t 6 ≤ 6 := hW.2.2.2.2.2.2.1
  have hw : 0 ≤ t 5 ∧ t 5 ≤ 4 := hW.2.2.2.2.2.1
  rw [e_X4_takeLine, if_neg (show ¬ ((4 : Nat) : Int) = 0 by decide), if_neg (show ¬ ((4 : Nat) : Int) = 1 by decide), if_neg (show ¬ ((4 : Nat) : Int) = 2 by decide), if_neg (show ¬ ((4 : Nat) : Int) = 3 by decide), if_pos (show ((4 : Nat) : Int) = 4 by decide), e_X4_takeLine_177, xg_pos (hP.p (by decide)), xg_pos (hP.p (by decide)), xg_pos (hP.p (by decide)), xg_pos (hP.p (by decide)), e_X6_addShoal, a5, if_pos (by omega), xg_pos (hP.p (by decide)), xg_pos (by omega), xg_pos (hP.p (by decide)), xg_pos (by omega), xg_pos (hP.p (by decide)), xg_pos (by omega), xg_pos (by omega), xg_pos (by omega), xb_some]
  have et : lnT 4 (g 120) t = tK t 5 19 3 4 (g 120) := rfl
  have hne : ∀ a j, ¬ ((a = 92 ∧ j = (t 5).toNat) ∨ (a = 93 ∧ j = (t 5).toNat) ∨ (a = 94 ∧ j = (t 5).toNat) ∨ (a = 90 ∧ j = 6)) → (zup (zup (zup (zup g 92 (t 5).toNat (g 120 0)) 93 (t 5).toNat (g 120 1)) 94 (t 5).toNat (g 120 2)) 90 6 (t 5 + 1)) a j = g a j := fun a j w => by rw [zup_ne (by omega), zup_ne (by omega), zup_ne (by omega), zup_ne (by omega)]
  have tne : ∀ i, ¬ (i = 5 ∨ (19 + 3 * (t 5).toNat ≤ i ∧ i < 19 + 3 * (t 5).toNat + 3)) → (tK t 5 19 3 4 (g 120)) i = t i := fun i w => tK_old (by omega) (by omega)
  rw [et]
  refine ⟨_, rfl, ⟨by rw [hne _ _ (by omega), tne _ (by omega)]; exact a0, by rw [hne _ _ (by omega), tne _ (by omega)]; exact a1, by rw [hne _ _ (by omega), tne _ (by omega)]; exact a2, by rw [hne _ _ (by omega), tne _ (by omega)]; exact a3, by rw [hne _ _ (by omega), tne _ (by omega)]; exact a4, by rw [zup_at]; exact (tK_c1 hM).symm, by rw [hne _ _ (by omega), tne _ (by omega)]; exact a6, by rw [hne _ _ (by omega), tne _ (by omega)]; exact a7, fun i hi => by rw [hne _ _ (by omega), tne _ (by omega)]; exact a8 i hi, fun k hk => by
    have ec : (tK t 5 19 3 4 (g 120)) 5 = t 5 + 1 := tK_c1 hM
    rw [ec] at hk
    by_cases w : (k : Int) = t 5
    · obtain rfl : k = (t 5).toNat := by omega
      have r0 := tK_new (t := t) (ct := 5) (from_ := 19) (wide := 3) (most := 4) (r := 0) (v := g 120) hM (by decide) (by decide)
      have r1 := tK_new (t := t) (ct := 5) (from_ := 19) (wide := 3) (most := 4) (r := 1) (v := g 120) hM (by decide) (by decide)
      have r2 := tK_new (t := t) (ct := 5) (from_ := 19) (wide := 3) (most := 4) (r := 2) (v := g 120) hM (by decide) (by decide)
      rw [show 19 + 3 * (t 5).toNat + 1 = 20 + 3 * (t 5).toNat by omega] at r1
      rw [show 19 + 3 * (t 5).toNat + 2 = 21 + 3 * (t 5).toNat by omega] at r2
      rw [Nat.add_zero] at r0
      rw [r0, r1, r2]
      exact ⟨by rw [zup_ne (by omega), zup_ne (by omega), zup_ne (by omega), zup_eq (by omega) rfl], by rw [zup_ne (by omega), zup_ne (by omega), zup_eq (by omega) rfl], by rw [zup_ne (by omega), zup_eq (by omega) rfl]⟩
    · rw [hne _ _ (by omega), hne _ _ (by omega), hne _ _ (by omega), tne _ (by omega), tne _ (by omega), tne _ (by omega)]
      exact a9 k (by omega), fun k hk => by rw [tne _ (by omega)] at hk; rw [hne _ _ (by omega), hne _ _ (by omega), hne _ _ (by omega), tne _ (by omega), tne _ (by omega), tne _ (by omega)]; exact a10 k hk⟩, fun a j w => hne a j (fun w2 => w (by unfold cZ; omega))⟩
theorem take_5 {n : Nat} {t : Nat → Int} {g : yH} (hP : cP g) (hS : cS 90 t g) (hW : tW0 t) (hM : t 6 ≠ 6) (hB : ∀ i, i < lnN 5 → ¬ lnB 5 (g 120) i) : ∃ h2, f_X4_takeLine n [80, ((5 : Nat) : Int)] g = some (0, h2) ∧ cS 90 (lnT 5 (g 120) t) h2 ∧ ∀ a j, ¬ cZ a j → h2 a j = g a j := by
  have b2 := lnG (hB 2 (by decide +kernel)) (lo := 0) (hi := 2) (by decide +kernel) (by decide +kernel)
  obtain ⟨a0, a1, a2, a3, a4, a5, a6, a7, a8, a9, a10⟩ := hS
  have hw5 : 0 ≤ t 5 ∧ t 5 ≤ 4 := hW.2.2.2.2.2.1
  have hw6 : 0 ≤ t 6 ∧ t 6 ≤ 6 := hW.2.2.2.2.2.2.1
  have hw : 0 ≤ t 6 ∧ t 6 ≤ 6 := hW.2.2.2.2.2.2.1
  rw [e_X4_takeLine, if_neg (show ¬ ((5 : Nat) : Int) = 0 by decide), if_neg (show ¬ ((5 : Nat) : Int) = 1 by decide), if_neg (show ¬ ((5 : Nat) : Int) = 2 by decide), if_neg (show ¬ ((5 : Nat) : Int) = 3 by decide), if_neg (show ¬ ((5 : Nat) : Int) = 4 by decide), if_pos (show ((5 : Nat) : Int) = 5 by decide), e_X4_takeLine_205, xg_pos (hP.p (by decide)), xg_pos (hP.p (by decide)), xg_pos (hP.p (by decide)), xg_pos (hP.p (by decide)), e_X6_addBoat, a6, if_pos (by omega), xg_pos (hP.p (by decide)), xg_pos (by omega), xg_pos (hP.p (by decide)), xg_pos (by omega), xg_pos (hP.p (by decide)), xg_pos (by omega), xg_pos b2, xg_pos (by omega), xg_pos (by omega), xb_some]
  have et : lnT 5 (g 120) t = tK t 6 31 3 6 (g 120) := rfl
  have hne : ∀ a j, ¬ ((a = 95 ∧ j = (t 6).toNat) ∨ (a = 96 ∧ j = (t 6).toNat) ∨ (a = 97 ∧ j = (t 6).toNat) ∨ (a = 90 ∧ j = 10)) → (zup (zup (zup (zup g 95 (t 6).toNat (g 120 0)) 96 (t 6).toNat (g 120 1)) 97 (t 6).toNat (g 120 2)) 90 10 (t 6 + 1)) a j = g a j := fun a j w => by rw [zup_ne (by omega), zup_ne (by omega), zup_ne (by omega), zup_ne (by omega)]
  have tne : ∀ i, ¬ (i = 6 ∨ (31 + 3 * (t 6).toNat ≤ i ∧ i < 31 + 3 * (t 6).toNat + 3)) → (tK t 6 31 3 6 (g 120)) i = t i := fun i w => tK_old (by omega) (by omega)
  rw [et]
  refine ⟨_, rfl, ⟨by rw [hne _ _ (by omega), tne _ (by omega)]; exact a0, by rw [hne _ _ (by omega), tne _ (by omega)]; exact a1, by rw [hne _ _ (by omega), tne _ (by omega)]; exact a2, by rw [hne _ _ (by omega), tne _ (by omega)]; exact a3, by rw [hne _ _ (by omega), tne _ (by omega)]; exact a4, by rw [hne _ _ (by omega), tne _ (by omega)]; exact a5, by rw [zup_at]; exact (tK_c1 hM).symm, by rw [hne _ _ (by omega), tne _ (by omega)]; exact a7, fun i hi => by rw [hne _ _ (by omega), tne _ (by omega)]; exact a8 i hi, fun k hk => by rw [tne _ (by omega)] at hk; rw [hne _ _ (by omega), hne _ _ (by omega), hne _ _ (by omega), tne _ (by omega), tne _ (by omega), tne _ (by omega)]; exact a9 k hk, fun k hk => by
    have ec : (tK t 6 31 3 6 (g 120)) 6 = t 6 + 1 := tK_c1 hM
    rw [ec] at hk
    by_cases w : (k : Int) = t 6
    · obtain rfl : k = (t 6).toNat := by omega
      have r0 := tK_new (t := t) (ct := 6) (from_ := 31) (wide := 3) (most := 6) (r := 0) (v := g 120) hM (by decide) (by decide)
      have r1 := tK_new (t := t) (ct := 6) (from_ := 31) (wide := 3) (most := 6) (r := 1) (v := g 120) hM (by decide) (by decide)
      have r2 := tK_new (t := t) (ct := 6) (from_ := 31) (wide := 3) (most := 6) (r := 2) (v := g 120) hM (by decide) (by decide)
      rw [show 31 + 3 * (t 6).toNat + 1 = 32 + 3 * (t 6).toNat by omega] at r1
      rw [show 31 + 3 * (t 6).toNat + 2 = 33 + 3 * (t 6).toNat by omega] at r2
      rw [Nat.add_zero] at r0
      rw [r0, r1, r2]
      exact ⟨by rw [zup_ne (by omega), zup_ne (by omega), zup_ne (by omega), zup_eq (by omega) rfl], by rw [zup_ne (by omega), zup_ne (by omega), zup_eq (by omega) rfl], by rw [zup_ne (by omega), zup_eq (by omega) rfl]⟩
    · rw [hne _ _ (by omega), hne _ _ (by omega), hne _ _ (by omega), tne _ (by omega), tne _ (by omega), tne _ (by omega)]
      exact a10 k (by omega)⟩, fun a j w => hne a j (fun w2 => w (by unfold cZ; omega))⟩
theorem take_13 {n : Nat} {t : Nat → Int} {g : yH} (hP : cP g) (hS : cQ 110 t g) (hW : tW2 t) (hM : t 0 ≠ 9) (hB : ∀ i, i < lnN 13 → ¬ lnB 13 (g 120) i) : ∃ h2, f_X4_takeLine n [80, ((13 : Nat) : Int)] g = some (0, h2) ∧ cQ 110 (lnT 13 (g 120) t) h2 ∧ ∀ a j, ¬ cZ a j → h2 a j = g a j := by
  obtain ⟨a0, a1, a2, a3⟩ := hS
  have hw0 : 0 ≤ t 0 ∧ t 0 ≤ 9 := hW.1
  have hw1 : 0 ≤ t 1 ∧ t 1 ≤ 16 := hW.2.1
  rw [e_X4_takeLine, if_neg (show ¬ ((13 : Nat) : Int) = 0 by decide), if_neg (show ¬ ((13 : Nat) : Int) = 1 by decide), if_neg (show ¬ ((13 : Nat) : Int) = 2 by decide), if_neg (show ¬ ((13 : Nat) : Int) = 3 by decide), if_neg (show ¬ ((13 : Nat) : Int) = 4 by decide), if_neg (show ¬ ((13 : Nat) : Int) = 5 by decide), if_neg (show ¬ ((13 : Nat) : Int) = 6 by decide), if_neg (show ¬ ((13 : Nat) : Int) = 7 by decide), if_neg (show ¬ ((13 : Nat) : Int) = 8 by decide), if_neg (show ¬ ((13 : Nat) : Int) = 9 by decide), if_neg (show ¬ ((13 : Nat) : Int) = 10 by decide), if_neg (show ¬ ((13 : Nat) : Int) = 11 by decide), if_neg (show ¬ ((13 : Nat) : Int) = 12 by decide), if_pos (show ((13 : Nat) : Int) = 13 by decide), e_X4_takeLine_256, xg_pos (hP.p (by decide)), xg_pos (hP.p (by decide)), xg_pos (hP.p (by decide)), e_X2_addSaying, a0, if_pos (by omega), xg_pos (hP.p (by decide)), xg_pos (by omega), xg_pos (hP.p (by decide)), xg_pos (by omega), xg_pos (by omega), xg_pos (by omega), xb_some]
  have et : lnT 13 (g 120) t = tK t 0 2 2 9 (g 120) := rfl
  have hne : ∀ a j, ¬ ((a = 111 ∧ j = (t 0).toNat) ∨ (a = 112 ∧ j = (t 0).toNat) ∨ (a = 110 ∧ j = 0)) → (zup (zup (zup g 111 (t 0).toNat (g 120 0)) 112 (t 0).toNat (g 120 1)) 110 0 (t 0 + 1)) a j = g a j := fun a j w => by rw [zup_ne (by omega), zup_ne (by omega), zup_ne (by omega)]
  have tne : ∀ i, ¬ (i = 0 ∨ (2 + 2 * (t 0).toNat ≤ i ∧ i < 2 + 2 * (t 0).toNat + 2)) → (tK t 0 2 2 9 (g 120)) i = t i := fun i w => tK_old (by omega) (by omega)
  rw [et]
  refine ⟨_, rfl, ⟨by rw [zup_at]; exact (tK_c1 hM).symm, by rw [hne _ _ (by omega), tne _ (by omega)]; exact a1, fun k hk => by
    have ec : (tK t 0 2 2 9 (g 120)) 0 = t 0 + 1 := tK_c1 hM
    rw [ec] at hk
    by_cases w : (k : Int) = t 0
    · obtain rfl : k = (t 0).toNat := by omega
      have r0 := tK_new (t := t) (ct := 0) (from_ := 2) (wide := 2) (most := 9) (r := 0) (v := g 120) hM (by decide) (by decide)
      have r1 := tK_new (t := t) (ct := 0) (from_ := 2) (wide := 2) (most := 9) (r := 1) (v := g 120) hM (by decide) (by decide)
      rw [show 2 + 2 * (t 0).toNat + 1 = 3 + 2 * (t 0).toNat by omega] at r1
      rw [Nat.add_zero] at r0
      rw [r0, r1]
      exact ⟨by rw [zup_ne (by omega), zup_ne (by omega), zup_eq (by omega) rfl], by rw [zup_ne (by omega), zup_eq (by omega) rfl]⟩
    · rw [hne _ _ (by omega), hne _ _ (by omega), tne _ (by omega), tne _ (by omega)]
      exact a2 k (by omega), fun k hk => by rw [tne _ (by omega)] at hk; rw [hne _ _ (by omega), hne _ _ (by omega), tne _ (by omega), tne _ (by omega)]; exact a3 k hk⟩, fun a j w => hne a j (fun w2 => w (by unfold cZ; omega))⟩
theorem take_14 {n : Nat} {t : Nat → Int} {g : yH} (hP : cP g) (hS : cQ 110 t g) (hW : tW2 t) (hM : t 1 ≠ 16) (hB : ∀ i, i < lnN 14 → ¬ lnB 14 (g 120) i) : ∃ h2, f_X4_takeLine n [80, ((14 : Nat) : Int)] g = some (0, h2) ∧ cQ 110 (lnT 14 (g 120) t) h2 ∧ ∀ a j, ¬ cZ a j → h2 a j = g a j := by
  have b0 := lnG (hB 0 (by decide +kernel)) (lo := 0) (hi := 8) (by decide +kernel) (by decide +kernel)
  have b1 := lnG (hB 1 (by decide +kernel)) (lo := 0) (hi := 8) (by decide +kernel) (by decide +kernel)
  obtain ⟨a0, a1, a2, a3⟩ := hS
  have hw0 : 0 ≤ t 0 ∧ t 0 ≤ 9 := hW.1
  have hw1 : 0 ≤ t 1 ∧ t 1 ≤ 16 := hW.2.1
  rw [e_X4_takeLine, if_neg (show ¬ ((14 : Nat) : Int) = 0 by decide), if_neg (show ¬ ((14 : Nat) : Int) = 1 by decide), if_neg (show ¬ ((14 : Nat) : Int) = 2 by decide), if_neg (show ¬ ((14 : Nat) : Int) = 3 by decide), if_neg (show ¬ ((14 : Nat) : Int) = 4 by decide), if_neg (show ¬ ((14 : Nat) : Int) = 5 by decide), if_neg (show ¬ ((14 : Nat) : Int) = 6 by decide), if_neg (show ¬ ((14 : Nat) : Int) = 7 by decide), if_neg (show ¬ ((14 : Nat) : Int) = 8 by decide), if_neg (show ¬ ((14 : Nat) : Int) = 9 by decide), if_neg (show ¬ ((14 : Nat) : Int) = 10 by decide), if_neg (show ¬ ((14 : Nat) : Int) = 11 by decide), if_neg (show ¬ ((14 : Nat) : Int) = 12 by decide), if_neg (show ¬ ((14 : Nat) : Int) = 13 by decide), if_pos (show ((14 : Nat) : Int) = 14 by decide), e_X4_takeLine_278, xg_pos (hP.p (by decide)), xg_pos (hP.p (by decide)), xg_pos (hP.p (by decide)), e_X2_addAhead, a1, if_pos (by omega), xg_pos (hP.p (by decide)), xg_pos (by omega), xg_pos b0, xg_pos (hP.p (by decide)), xg_pos (by omega), xg_pos b1, xg_pos (by omega), xg_pos (by omega), xb_some]
  have et : lnT 14 (g 120) t = tK t 1 20 2 16 (g 120) := rfl
  have hne : ∀ a j, ¬ ((a = 113 ∧ j = (t 1).toNat) ∨ (a = 114 ∧ j = (t 1).toNat) ∨ (a = 110 ∧ j = 3)) → (zup (zup (zup g 113 (t 1).toNat (g 120 0)) 114 (t 1).toNat (g 120 1)) 110 3 (t 1 + 1)) a j = g a j := fun a j w => by rw [zup_ne (by omega), zup_ne (by omega), zup_ne (by omega)]
  have tne : ∀ i, ¬ (i = 1 ∨ (20 + 2 * (t 1).toNat ≤ i ∧ i < 20 + 2 * (t 1).toNat + 2)) → (tK t 1 20 2 16 (g 120)) i = t i := fun i w => tK_old (by omega) (by omega)
  rw [et]
  refine ⟨_, rfl, ⟨by rw [hne _ _ (by omega), tne _ (by omega)]; exact a0, by rw [zup_at]; exact (tK_c1 hM).symm, fun k hk => by rw [tne _ (by omega)] at hk; rw [hne _ _ (by omega), hne _ _ (by omega), tne _ (by omega), tne _ (by omega)]; exact a2 k hk, fun k hk => by
    have ec : (tK t 1 20 2 16 (g 120)) 1 = t 1 + 1 := tK_c1 hM
    rw [ec] at hk
    by_cases w : (k : Int) = t 1
    · obtain rfl : k = (t 1).toNat := by omega
      have r0 := tK_new (t := t) (ct := 1) (from_ := 20) (wide := 2) (most := 16) (r := 0) (v := g 120) hM (by decide) (by decide)
      have r1 := tK_new (t := t) (ct := 1) (from_ := 20) (wide := 2) (most := 16) (r := 1) (v := g 120) hM (by decide) (by decide)
      rw [show 20 + 2 * (t 1).toNat + 1 = 21 + 2 * (t 1).toNat by omega] at r1
      rw [Nat.add_zero] at r0
      rw [r0, r1]
      exact ⟨by rw [zup_ne (by omega), zup_ne (by omega), zup_eq (by omega) rfl], by rw [zup_ne (by omega), zup_eq (by omega) rfl]⟩
    · rw [hne _ _ (by omega), hne _ _ (by omega), tne _ (by omega), tne _ (by omega)]
      exact a3 k (by omega)⟩, fun a j w => hne a j (fun w2 => w (by unfold cZ; omega))⟩
theorem deed_s {n i d : Nat} {k c w : Int} {h : yH} (hP : cP h) (hd : h 100 0 = (d : Int)) (hd2 : d < 30) (hi : i < 3) (hw : h 120 i = w) : xl_X1_addDeed (n + 1) 22 [100, k, 120, c, (i : Int)] h = xl_X1_addDeed n 22 [100, k, 120, c, (i : Int) + 1] (zup h 102 (3 * d + i) (if (i : Int) < c then w else -1)) := by
  rw [e_X1_addDeed_22, if_pos (by omega), xg_pos (hP.p (by decide)), hd, xg_pos (by omega), xg_pos (by omega), show (3 * (d : Int) + (i : Int)).toNat = 3 * d + i by omega, Int.toNat_natCast, hw]
  by_cases w : (i : Int) < c
  · rw [if_pos w, if_pos (by omega), xg_pos (by omega), xg_pos (by omega), xg_pos (by omega), if_pos w]
  · rw [if_neg w, xg_pos (by omega), xg_pos (by omega), if_neg w]
theorem deed_e {n d : Nat} {k c : Int} {h : yH} (hP : cP h) (hd : h 100 0 = (d : Int)) (hd2 : d < 30) (hk : 0 ≤ k ∧ k ≤ 5) (hn : 5 ≤ n) : f_X1_addDeed n [100, k, 120, c] h = some (0, zup (zup (zup (zup (zup h 101 d k) 102 (3 * d + 0) (if (0 : Int) < c then h 120 0 else -1)) 102 (3 * d + 1) (if (1 : Int) < c then h 120 1 else -1)) 102 (3 * d + 2) (if (2 : Int) < c then h 120 2 else -1)) 100 0 ((d : Int) + 1)) := by
  obtain ⟨n, rfl⟩ : ∃ n', n = n' + 4 := ⟨n - 4, by omega⟩
  rw [e_X1_addDeed, hd, if_pos (by omega), xg_pos (hP.p (by decide)), xg_pos (by omega), xg_pos hk, Int.toNat_natCast]
  have cf1 : ∀ j, cF 101 j = false := fun j => by
    unfold cF
    rw [List.any_eq_false]
    intro p hp
    have : ∀ p ∈ cPL, p.1 ≠ 101 := by decide +kernel
    simp [this p hp]
  have cf2 : ∀ j, cF 102 j = false := fun j => by
    unfold cF
    rw [List.any_eq_false]
    intro p hp
    have : ∀ p ∈ cPL, p.1 ≠ 102 := by decide +kernel
    simp [this p hp]
  have p1 : cP (zup h 101 d k) := hP.up (cf1 _)
  have q1 : zup h 101 d k 100 0 = (d : Int) := by rw [zup_ne (by omega)]; exact hd
  have v1 : ∀ j, zup h 101 d k 120 j = h 120 j := fun j => zup_ne (by omega)
  generalize zup h 101 d k = g1 at *
  have s1 : xl_X1_addDeed (n + 3 + 1) 22 [100, k, 120, c, 0] g1 = xl_X1_addDeed (n + 3) 22 [100, k, 120, c, 1] (zup g1 102 (3 * d + 0) (if (0 : Int) < c then h 120 0 else -1)) := deed_s (i := 0) p1 q1 hd2 (by decide) (v1 0)
  rw [s1]
  clear s1
  generalize (if (0 : Int) < c then h 120 0 else -1) = w0
  have p2 : cP (zup g1 102 (3 * d + 0) w0) := p1.up (cf2 _)
  have q2 : zup g1 102 (3 * d + 0) w0 100 0 = (d : Int) := by rw [zup_ne (by omega)]; exact q1
  have v2 : ∀ j, zup g1 102 (3 * d + 0) w0 120 j = h 120 j := fun j => by rw [zup_ne (by omega)]; exact v1 j
  generalize zup g1 102 (3 * d + 0) w0 = g2 at *
  have s2 : xl_X1_addDeed (n + 2 + 1) 22 [100, k, 120, c, 1] g2 = xl_X1_addDeed (n + 2) 22 [100, k, 120, c, 2] (zup g2 102 (3 * d + 1) (if (1 : Int) < c then h 120 1 else -1)) := deed_s (i := 1) p2 q2 hd2 (by decide) (v2 1)
  rw [s2]
  clear s2
  generalize (if (1 : Int) < c then h 120 1 else -1) = w1
  have p3 : cP (zup g2 102 (3 * d + 1) w1) := p2.up (cf2 _)
  have q3 : zup g2 102 (3 * d + 1) w1 100 0 = (d : Int) := by rw [zup_ne (by omega)]; exact q2
  have v3 : ∀ j, zup g2 102 (3 * d + 1) w1 120 j = h 120 j := fun j => by rw [zup_ne (by omega)]; exact v2 j
  generalize zup g2 102 (3 * d + 1) w1 = g3 at *
  have s3 : xl_X1_addDeed (n + 1 + 1) 22 [100, k, 120, c, 2] g3 = xl_X1_addDeed (n + 1) 22 [100, k, 120, c, 3] (zup g3 102 (3 * d + 2) (if (2 : Int) < c then h 120 2 else -1)) := deed_s (i := 2) p3 q3 hd2 (by decide) (v3 2)
  rw [s3, e_X1_addDeed_22, if_neg (by decide), zup_ne (by omega), q3, xg_pos (by omega), xg_pos (by omega)]
theorem take_d {n ln : Nat} {t : Nat → Int} {g : yH} (hP : cP g) (hS : cD 100 t g) (hW : tW1 t) (hM : t 0 ≠ 30) (h7 : 7 ≤ ln ∧ ln < 13) (hn : 5 ≤ n) : ∃ h2, f_X4_takeLine n [80, (ln : Int)] g = some (0, h2) ∧ cD 100 (lnT ln (g 120) t) h2 ∧ ∀ a j, ¬ cZ a j → h2 a j = g a j := by
  obtain ⟨a0, a1⟩ := hS
  have hw : 0 ≤ t 0 ∧ t 0 ≤ 30 := hW.1
  obtain ⟨d, hd⟩ : ∃ d : Nat, t 0 = (d : Int) := ⟨(t 0).toNat, by omega⟩
  have hd2 : d < 30 := by omega
  have hN := (lnN_b ⟨ln, by omega⟩).1
  simp only at hN
  have e300 : f_X4_takeLine n [80, (ln : Int)] g = xq_X4_takeLine_300 n [80, (ln : Int)] g := by
    rw [e_X4_takeLine]
    rcases (show ln = 7 ∨ ln = 8 ∨ ln = 9 ∨ ln = 10 ∨ ln = 11 ∨ ln = 12 by omega) with rfl | rfl | rfl | rfl | rfl | rfl
    · rw [if_neg (show ¬ ((7 : Nat) : Int) = 0 by decide), if_neg (show ¬ ((7 : Nat) : Int) = 1 by decide), if_neg (show ¬ ((7 : Nat) : Int) = 2 by decide), if_neg (show ¬ ((7 : Nat) : Int) = 3 by decide), if_neg (show ¬ ((7 : Nat) : Int) = 4 by decide), if_neg (show ¬ ((7 : Nat) : Int) = 5 by decide), if_neg (show ¬ ((7 : Nat) : Int) = 6 by decide), if_pos (show ((7 : Nat) : Int) = 7 by decide)]
    · rw [if_neg (show ¬ ((8 : Nat) : Int) = 0 by decide), if_neg (show ¬ ((8 : Nat) : Int) = 1 by decide), if_neg (show ¬ ((8 : Nat) : Int) = 2 by decide), if_neg (show ¬ ((8 : Nat) : Int) = 3 by decide), if_neg (show ¬ ((8 : Nat) : Int) = 4 by decide), if_neg (show ¬ ((8 : Nat) : Int) = 5 by decide), if_neg (show ¬ ((8 : Nat) : Int) = 6 by decide), if_neg (show ¬ ((8 : Nat) : Int) = 7 by decide), if_pos (show ((8 : Nat) : Int) = 8 by decide)]
    · rw [if_neg (show ¬ ((9 : Nat) : Int) = 0 by decide), if_neg (show ¬ ((9 : Nat) : Int) = 1 by decide), if_neg (show ¬ ((9 : Nat) : Int) = 2 by decide), if_neg (show ¬ ((9 : Nat) : Int) = 3 by decide), if_neg (show ¬ ((9 : Nat) : Int) = 4 by decide), if_neg (show ¬ ((9 : Nat) : Int) = 5 by decide), if_neg (show ¬ ((9 : Nat) : Int) = 6 by decide), if_neg (show ¬ ((9 : Nat) : Int) = 7 by decide), if_neg (show ¬ ((9 : Nat) : Int) = 8 by decide), if_pos (show ((9 : Nat) : Int) = 9 by decide)]
    · rw [if_neg (show ¬ ((10 : Nat) : Int) = 0 by decide), if_neg (show ¬ ((10 : Nat) : Int) = 1 by decide), if_neg (show ¬ ((10 : Nat) : Int) = 2 by decide), if_neg (show ¬ ((10 : Nat) : Int) = 3 by decide), if_neg (show ¬ ((10 : Nat) : Int) = 4 by decide), if_neg (show ¬ ((10 : Nat) : Int) = 5 by decide), if_neg (show ¬ ((10 : Nat) : Int) = 6 by decide), if_neg (show ¬ ((10 : Nat) : Int) = 7 by decide), if_neg (show ¬ ((10 : Nat) : Int) = 8 by decide), if_neg (show ¬ ((10 : Nat) : Int) = 9 by decide), if_pos (show ((10 : Nat) : Int) = 10 by decide)]
    · rw [if_neg (show ¬ ((11 : Nat) : Int) = 0 by decide), if_neg (show ¬ ((11 : Nat) : Int) = 1 by decide), if_neg (show ¬ ((11 : Nat) : Int) = 2 by decide), if_neg (show ¬ ((11 : Nat) : Int) = 3 by decide), if_neg (show ¬ ((11 : Nat) : Int) = 4 by decide), if_neg (show ¬ ((11 : Nat) : Int) = 5 by decide), if_neg (show ¬ ((11 : Nat) : Int) = 6 by decide), if_neg (show ¬ ((11 : Nat) : Int) = 7 by decide), if_neg (show ¬ ((11 : Nat) : Int) = 8 by decide), if_neg (show ¬ ((11 : Nat) : Int) = 9 by decide), if_neg (show ¬ ((11 : Nat) : Int) = 10 by decide), if_pos (show ((11 : Nat) : Int) = 11 by decide)]
    · rw [if_neg (show ¬ ((12 : Nat) : Int) = 0 by decide), if_neg (show ¬ ((12 : Nat) : Int) = 1 by decide), if_neg (show ¬ ((12 : Nat) : Int) = 2 by decide), if_neg (show ¬ ((12 : Nat) : Int) = 3 by decide), if_neg (show ¬ ((12 : Nat) : Int) = 4 by decide), if_neg (show ¬ ((12 : Nat) : Int) = 5 by decide), if_neg (show ¬ ((12 : Nat) : Int) = 6 by decide), if_neg (show ¬ ((12 : Nat) : Int) = 7 by decide), if_neg (show ¬ ((12 : Nat) : Int) = 8 by decide), if_neg (show ¬ ((12 : Nat) : Int) = 9 by decide), if_neg (show ¬ ((12 : Nat) : Int) = 10 by decide), if_neg (show ¬ ((12 : Nat) : Int) = 11 by decide), if_pos (show ((12 : Nat) : Int) = 12 by decide)]
  rw [e300, e_X4_takeLine_300, xg_pos (hP.p (by decide)), xg_pos (by omega), xg_pos (hP.p (by decide)), xg_pos (by omega), show ((ln : Int) + 0).toNat = ln by omega, hN, deed_e hP (by rw [a0]; exact hd) hd2 (by omega) hn, xb_some]
  have et : lnT ln (g 120) t = tK t 0 1 4 30 (fun i => if i = 0 then (ln : Int) - 7 else if i ≤ lnN ln then g 120 (i - 1) else -1) := by
    unfold lnT
    rw [if_neg (by omega), if_neg (by omega), if_neg (by omega), if_neg (by omega), if_neg (by omega), if_neg (by omega), if_neg (by omega), if_neg (by omega), if_neg (by omega)]
  have hne : ∀ a j, ¬ ((a = 101 ∧ j = d) ∨ (a = 102 ∧ 3 * d ≤ j ∧ j < 3 * d + 3) ∨ (a = 100 ∧ j = 0)) → (zup (zup (zup (zup (zup g 101 d ((ln : Int) - 7)) 102 (3 * d + 0) (if (0 : Int) < (lnN ln : Int) then g 120 0 else -1)) 102 (3 * d + 1) (if (1 : Int) < (lnN ln : Int) then g 120 1 else -1)) 102 (3 * d + 2) (if (2 : Int) < (lnN ln : Int) then g 120 2 else -1)) 100 0 ((d : Int) + 1)) a j = g a j := fun a j w => by rw [zup_ne (by omega), zup_ne (by omega), zup_ne (by omega), zup_ne (by omega), zup_ne (by omega)]
  rw [et]
  generalize hv : (fun i : Nat => if i = 0 then (ln : Int) - 7 else if i ≤ lnN ln then g 120 (i - 1) else -1) = v
  have tne : ∀ i, ¬ (i = 0 ∨ (1 + 4 * d ≤ i ∧ i < 1 + 4 * d + 4)) → tK t 0 1 4 30 v i = t i := fun i w => tK_old (by omega) (by rw [hd, Int.toNat_natCast]; omega)
  refine ⟨_, rfl, ⟨by rw [zup_at, tK_c1 hM, hd], fun k hk => ?_⟩, fun a j w => hne a j (fun w2 => w (by unfold cZ; omega))⟩
  rw [tK_c1 hM, hd] at hk
  by_cases w : k = d
  · subst w
    have r0 := tK_new (t := t) (ct := 0) (from_ := 1) (wide := 4) (most := 30) (r := 0) (v := v) hM (by decide) (by decide)
    have r1 := tK_new (t := t) (ct := 0) (from_ := 1) (wide := 4) (most := 30) (r := 1) (v := v) hM (by decide) (by decide)
    have r2 := tK_new (t := t) (ct := 0) (from_ := 1) (wide := 4) (most := 30) (r := 2) (v := v) hM (by decide) (by decide)
    have r3 := tK_new (t := t) (ct := 0) (from_ := 1) (wide := 4) (most := 30) (r := 3) (v := v) hM (by decide) (by decide)
    rw [hd, Int.toNat_natCast] at r0 r1 r2 r3
    rw [show 1 + 4 * k + 1 = 2 + 4 * k by omega] at r1
    rw [show 1 + 4 * k + 2 = 3 + 4 * k by omega] at r2
    rw [show 1 + 4 * k + 3 = 4 + 4 * k by omega] at r3
    rw [Nat.add_zero] at r0
    rw [r0, r1, r2, r3, ← hv]
    simp only
    refine ⟨by rw [zup_ne (by omega), zup_ne (by omega), zup_ne (by omega), zup_ne (by omega), zup_eq (by omega) rfl]; rfl, ?_, ?_, ?_⟩
    · rw [zup_ne (by omega), zup_ne (by omega), zup_ne (by omega), zup_eq (by omega) (by omega), if_neg (show ¬ (1 : Nat) = 0 by decide)]
      by_cases c : 1 ≤ lnN ln
      · rw [if_pos (show (0 : Int) < (lnN ln : Int) by omega), if_pos c]
      · rw [if_neg (show ¬ (0 : Int) < (lnN ln : Int) by omega), if_neg c]
    · rw [zup_ne (by omega), zup_ne (by omega), zup_eq (by omega) (by omega), if_neg (show ¬ (2 : Nat) = 0 by decide)]
      by_cases c : 2 ≤ lnN ln
      · rw [if_pos (show (1 : Int) < (lnN ln : Int) by omega), if_pos c]
      · rw [if_neg (show ¬ (1 : Int) < (lnN ln : Int) by omega), if_neg c]
    · rw [zup_ne (by omega), zup_eq (by omega) (by omega), if_neg (show ¬ (3 : Nat) = 0 by decide)]
      by_cases c : 3 ≤ lnN ln
      · rw [if_pos (show (2 : Int) < (lnN ln : Int) by omega), if_pos c]
      · rw [if_neg (show ¬ (2 : Int) < (lnN ln : Int) by omega), if_neg c]
  · rw [hne _ _ (by omega), hne _ _ (by omega), hne _ _ (by omega), hne _ _ (by omega), tne _ (by omega), tne _ (by omega), tne _ (by omega), tne _ (by omega)]
    exact a1 k (by omega)
/-- takeLine: a line without a fault -/
theorem take_e {n of ln : Nat} {t : Nat → Int} {g : yH} (hof : of ≤ 2) (hi : lnIn of ln) (hP : cP g) (hr : cR of t g) (hW : tWf of t) (hM : ¬ (lnAdds ln ∧ t (lnC ln) = lnM ln)) (hB : ∀ i, i < lnN ln → ¬ lnB ln (g 120) i) (hn : 10 ≤ n) : ∃ h2, f_X4_takeLine n [80, (ln : Int)] g = some (0, h2) ∧ cR of (lnT ln (g 120) t) h2 ∧ ∀ a j, ¬ cZ a j → h2 a j = g a j := by
  rcases lnIn_j hof hi with ⟨rfl, hl⟩ | ⟨rfl, hl⟩ | ⟨rfl, hl⟩
  · have hS := hr.1 rfl
    have hw := hW.1 rfl
    have fin : (∃ h2, f_X4_takeLine n [80, (ln : Int)] g = some (0, h2) ∧ cS 90 (lnT ln (g 120) t) h2 ∧ ∀ a j, ¬ cZ a j → h2 a j = g a j) → ∃ h2, f_X4_takeLine n [80, (ln : Int)] g = some (0, h2) ∧ cR 0 (lnT ln (g 120) t) h2 ∧ ∀ a j, ¬ cZ a j → h2 a j = g a j := fun ⟨h2, e1, e2, e3⟩ => ⟨h2, e1, ⟨fun _ => e2, fun e => absurd e (by decide), fun e => absurd e (by decide)⟩, e3⟩
    rcases (show ln = 0 ∨ ln = 1 ∨ ln = 2 ∨ ln = 3 ∨ ln = 4 ∨ ln = 5 ∨ ln = 6 by omega) with rfl | rfl | rfl | rfl | rfl | rfl | rfl
    · exact fin (take_0 hP hS hw hB)
    · exact fin (take_1 hP hS hw hB)
    · exact fin (take_2 hP hS hw hB)
    · exact fin (take_3 hP hS hw hB)
    · exact fin (take_4 hP hS hw (fun e => hM ⟨Or.inl rfl, e⟩) hB)
    · exact fin (take_5 hP hS hw (fun e => hM ⟨Or.inr (Or.inl rfl), e⟩) hB)
    · exact fin (take_6 hP hS hw hB)
  · obtain ⟨h2, e1, e2, e3⟩ := take_d (n := n) hP (hr.2.1 rfl) (hW.2.1 rfl) (fun e => hM ⟨Or.inr (Or.inr hl.1), by
      unfold lnC lnM
      rw [if_neg (by omega), if_neg (by omega), if_neg (by omega), if_neg (by omega), if_neg (by omega), if_neg (by omega), if_neg (by omega)]
      exact e⟩) hl (by omega)
    exact ⟨h2, e1, ⟨fun e => absurd e (by decide), fun _ => e2, fun e => absurd e (by decide)⟩, e3⟩
  · have fin : (∃ h2, f_X4_takeLine n [80, (ln : Int)] g = some (0, h2) ∧ cQ 110 (lnT ln (g 120) t) h2 ∧ ∀ a j, ¬ cZ a j → h2 a j = g a j) → ∃ h2, f_X4_takeLine n [80, (ln : Int)] g = some (0, h2) ∧ cR 2 (lnT ln (g 120) t) h2 ∧ ∀ a j, ¬ cZ a j → h2 a j = g a j := fun ⟨h2, e1, e2, e3⟩ => ⟨h2, e1, ⟨fun e => absurd e (by decide), fun e => absurd e (by decide), fun _ => e2⟩, e3⟩
    rcases (show ln = 13 ∨ ln = 14 by omega) with rfl | rfl
    · exact fin (take_13 hP (hr.2.2 rfl) (hW.2.2 rfl) (fun e => hM ⟨Or.inr (Or.inr (by decide)), e⟩) hB)
    · exact fin (take_14 hP (hr.2.2 rfl) (hW.2.2 rfl) (fun e => hM ⟨Or.inr (Or.inr (by decide)), e⟩) hB)
end
section
/-! the class: a line is read -/
theorem tkN_m {u : Nat → Int} {N x : Nat} (hx : x ≤ N) : ∀ i, tkN u N x i ≤ N := by
  intro i
  induction i with
  | zero => exact hx
  | succ i ih => exact tkE_n ih
theorem tK_cg {t : Nat → Int} {ct from_ wide most : Nat} {v w : Nat → Int} (h : ∀ i, i < wide → v i = w i) : tK t ct from_ wide most v = tK t ct from_ wide most w := by
  unfold tK
  split
  · rfl
  · funext i
    by_cases h1 : i = ct
    · rw [if_pos h1, if_pos h1]
    · rw [if_neg h1, if_neg h1]
      by_cases h2 : from_ + wide * (t ct).toNat ≤ i ∧ i < from_ + wide * (t ct).toNat + wide
      · rw [if_pos h2, if_pos h2, h _ (by omega)]
      · rw [if_neg h2, if_neg h2]
theorem lnN_v : lnN 0 = 2 ∧ lnN 1 = 2 ∧ lnN 2 = 1 ∧ lnN 3 = 5 ∧ lnN 4 = 3 ∧ lnN 5 = 3 ∧ lnN 6 = 1 ∧ lnN 13 = 2 ∧ lnN 14 = 2 := by decide +kernel
theorem lnT_congr {ln : Nat} {v w t : Nat → Int} (h : ∀ i, i < lnN ln → v i = w i) : lnT ln v t = lnT ln w t := by
  obtain ⟨n0, n1, n2, n3, n4, n5, n6, n13, n14⟩ := lnN_v
  unfold lnT
  by_cases c0 : ln = 0
  · subst c0; rw [n0] at h
    rw [if_pos rfl, if_pos rfl, h 0 (by decide), h 1 (by decide)]
  · rw [if_neg c0, if_neg c0]
    by_cases c1 : ln = 1
    · subst c1; rw [n1] at h
      rw [if_pos rfl, if_pos rfl, h 0 (by decide), h 1 (by decide)]
    · rw [if_neg c1, if_neg c1]
      by_cases c2 : ln = 2
      · subst c2; rw [n2] at h
        rw [if_pos rfl, if_pos rfl, h 0 (by decide)]
      · rw [if_neg c2, if_neg c2]
        by_cases c3 : ln = 3
        · subst c3; rw [n3] at h
          rw [if_pos rfl, if_pos rfl, h 0 (by decide), h 1 (by decide), h 2 (by decide), h 3 (by decide), h 4 (by decide)]
        · rw [if_neg c3, if_neg c3]
          by_cases c4 : ln = 4
          · subst c4; rw [n4] at h
            rw [if_pos rfl, if_pos rfl]
            exact tK_cg h
          · rw [if_neg c4, if_neg c4]
            by_cases c5 : ln = 5
            · subst c5; rw [n5] at h
              rw [if_pos rfl, if_pos rfl]
              exact tK_cg h
            · rw [if_neg c5, if_neg c5]
              by_cases c6 : ln = 6
              · subst c6; rw [n6] at h
                rw [if_pos rfl, if_pos rfl, h 0 (by decide)]
              · rw [if_neg c6, if_neg c6]
                by_cases c13 : ln = 13
                · subst c13; rw [n13] at h
                  rw [if_pos rfl, if_pos rfl]
                  exact tK_cg h
                · rw [if_neg c13, if_neg c13]
                  by_cases c14 : ln = 14
                  · subst c14; rw [n14] at h
                    rw [if_pos rfl, if_pos rfl]
                    exact tK_cg h
                  · rw [if_neg c14, if_neg c14]
                    refine tK_cg (fun i _ => ?_)
                    by_cases e0 : i = 0
                    · rw [if_pos e0, if_pos e0]
                    · rw [if_neg e0, if_neg e0]
                      by_cases e1 : i ≤ lnN ln
                      · rw [if_pos e1, if_pos e1, h _ (by omega)]
                      · rw [if_neg e1, if_neg e1]
theorem lnB_congr {ln i : Nat} {v w : Nat → Int} (h : ∀ j, j ≤ i → v j = w j) : lnB ln v i ↔ lnB ln w i := by
  unfold lnB
  by_cases c : i = 1
  · subst c
    rw [h 1 (by omega), h 0 (by omega)]
  · rw [h i (by omega)]
    constructor
    · intro w1
      rcases w1 with w1 | w1 | w1
      · exact Or.inl w1
      · exact absurd w1.2.1 c
      · exact absurd w1.2.1 c
    · intro w1
      rcases w1 with w1 | w1 | w1
      · exact Or.inl w1
      · exact absurd w1.2.1 c
      · exact absurd w1.2.1 c
theorem ntL_congr {ln : Nat} {v w p r : Nat → Int} {q : Int × Int} : ∀ {k : Nat}, (∀ i, i < k → v i = w i ∧ p i = r i) → ntL ln v p q k = ntL ln w r q k := by
  intro k
  induction k with
  | zero => intro _; rfl
  | succ k ih =>
    intro h
    unfold ntL
    rw [ih (fun i hi => h i (by omega)), (h k (by omega)).2]
    exact nt_iff (lnB_congr (fun j hj => (h j (by omega)).1))
/-- what a reader holds, whatever is noted -/
def cH (of : Nat) (q : Int × Int) (t : Nat → Int) (h : yH) : Prop := h 80 3 = q.1 ∧ h 80 4 = q.2 ∧ ∃ t2, cR of t2 h ∧ tWf of t2 ∧ (q.1 = 0 → t2 = t)
theorem cH.fr {of : Nat} {q : Int × Int} {t : Nat → Int} {h h2 : yH} (hh : cH of q t h) (h3 : h2 80 3 = h 80 3) (h4 : h2 80 4 = h 80 4) (hf : ∀ a j, 90 ≤ a → a ≤ 114 → h2 a j = h a j) : cH of q t h2 := by
  obtain ⟨e1, e2, t2, e3, e4, e5⟩ := hh
  exact ⟨by rw [h3]; exact e1, by rw [h4]; exact e2, t2, e3.fr hf, e4, e5⟩
theorem cTk_ne {u : Nat → Int} {N x : Nat} {h : yH} {a j : Nat} (w : ¬ (a = 80 ∧ (j = 7 ∨ j = 8 ∨ j = 9))) : cTk u N x h a j = h a j := by
  unfold cTk
  rw [zup_ne (by omega), zup_ne (by omega), zup_ne (by omega)]
theorem cTk_7 {u : Nat → Int} {N x : Nat} {h : yH} : cTk u N x h 80 7 = tc (tkK u N x) := by
  unfold cTk
  rw [zup_ne (by omega), zup_at]
theorem cTk_8 {u : Nat → Int} {N x : Nat} {h : yH} : cTk u N x h 80 8 = (tkS u N x : Int) := by
  unfold cTk
  rw [zup_ne (by omega), zup_ne (by omega), zup_at]
theorem cTk_9 {u : Nat → Int} {N x : Nat} {h : yH} : cTk u N x h 80 9 = (tkE u N x : Int) := by
  unfold cTk
  rw [zup_at]
theorem break_e {n : Nat} {h : yH} : f_X4_breakOff n [80] h = some (0, cN (1, h 80 8) h) := e_X4_breakOff
theorem cTk_H {u : Nat → Int} {N x of : Nat} {q : Int × Int} {t : Nat → Int} {h : yH} (hh : cH of q t h) : cH of q t (cTk u N x h) :=
  hh.fr (cTk_ne (by omega)) (cTk_ne (by omega)) (fun a j _ _ => cTk_ne (by omega))
/-- a break -/
theorem cN_H {of : Nat} {q q2 : Int × Int} {t : Nat → Int} {h : yH} (hh : cH of q t h) (h1 : q2.1 ≠ 0) : cH of q2 t (cN q2 h) := by
  obtain ⟨e1, e2, t2, e3, e4, e5⟩ := hh
  exact ⟨cN_3, cN_4, t2, e3.fr (fun a j _ _ => cN_ne (by omega)), e4, fun w => absurd w h1⟩
def cX (h h2 : yH) : Prop := ∀ a j, ¬ (80 ≤ a ∧ a ≤ 121) → h2 a j = h a j
/-- how a line ends: 0 a break at a token, 1 to its end -/
def cE (u : Nat → Int) (N of x ln : Nat) (q : Int × Int) (t : Nat → Int) (v : Int) (h2 : yH) : Prop :=
  (v = 0 ∧ ∃ k, k < lnN ln ∧ tkK u N (tkN u N x (k + 1)) ≠ 3 ∧ (∀ j, j < k → tkK u N (tkN u N x (j + 1)) = 3) ∧ cH of (1, (tkS u N (tkN u N x (k + 1)) : Nat)) t h2) ∨
  ((∀ j, j < lnN ln → tkK u N (tkN u N x (j + 1)) = 3) ∧ ((v = 0 ∧ tkK u N (tkN u N x (lnN ln + 1)) ≠ 4 ∧ cH of (1, (tkS u N (tkN u N x (lnN ln + 1)) : Nat)) t h2) ∨
    (v = 1 ∧ tkK u N (tkN u N x (lnN ln + 1)) = 4 ∧ h2 80 9 = (tkE u N (tkN u N x (lnN ln + 1)) : Nat) ∧
      cH of (ntL ln (fun i => tkV u N (tkN u N x (i + 1))) (fun i => (tkS u N (tkN u N x (i + 1)) : Nat)) (@nt q (lnAdds ln ∧ t (lnC ln) = lnM ln) (Classical.propDecidable _) 3 (tkS u N x : Nat)) (lnN ln)) (lnT ln (fun i => tkV u N (tkN u N x (i + 1))) t) h2)))
theorem tc_2 {k : Nat} (hk : k ≤ 4) : tc k = 2 ↔ k = 3 := by
  unfold tc
  split
  · omega
  · split <;> omega
theorem tc_3 {k : Nat} (hk : k ≤ 4) : tc k = 3 ↔ k = 4 := by
  unfold tc
  split
  · omega
  · split <;> omega
theorem tkK_4 {u : Nat → Int} {N x : Nat} : tkK u N x ≤ 4 := by
  unfold tkK
  split
  · omega
  · split
    · omega
    · split
      · split <;> omega
      · split <;> omega
theorem line_l {u : Nat → Int} {N of x ln : Nat} {q : Int × Int} {t : Nat → Int} (hof : of ≤ 2) (hi : lnIn of ln) (hl : ln < 15) (hx : x ≤ N) : ∀ (m i n : Nat) (h : yH), lnN ln - i = m → i ≤ lnN ln → m + 1500 < n → cC u N h → h 80 9 = (tkN u N x (i + 1) : Nat) → cH of q t h → (∀ j, j < i → tkK u N (tkN u N x (j + 1)) = 3 ∧ h 120 j = tkV u N (tkN u N x (j + 1)) ∧ h 121 j = (tkS u N (tkN u N x (j + 1)) : Nat)) →
    ∃ v h2, xl_X4_readLine n 53 [80, 4, (of : Int), (tkS u N x : Nat), (ln : Int), (i : Int)] h = some (v, h2) ∧ cC u N h2 ∧ cX h h2 ∧ cE u N of x ln q t v h2 := by
  obtain ⟨b1, b2⟩ := lnN_b ⟨ln, hl⟩
  simp only at b1 b2
  have z : ((ln : Int) + 0).toNat = ln := by omega
  intro m
  induction m with
  | zero =>
    intro i n h h1 h2 h3 hc h9 hH hj
    obtain ⟨n, rfl⟩ : ∃ n', n = n' + 1 := ⟨n - 1, by omega⟩
    have hii : i = lnN ln := by omega
    subst hii
    rw [e_X4_readLine_53, xg_pos (by omega), z, b1, if_neg (by omega), nextToken_e hc h9 (tkN_m hx _) (by omega), xb_some, cTk_7]
    have hc1 := cTk_C (x := tkN u N x (lnN ln + 1)) hc
    have hH1 := cTk_H (u := u) (N := N) (x := tkN u N x (lnN ln + 1)) hH
    by_cases h4 : tkK u N (tkN u N x (lnN ln + 1)) = 4
    · rw [if_pos ((tc_3 tkK_4).mpr h4)]
      generalize hg : cTk u N (tkN u N x (lnN ln + 1)) h = g at *
      have g9 : g 80 9 = (tkE u N (tkN u N x (lnN ln + 1)) : Nat) := by rw [← hg]; exact cTk_9
      have gx : cX h g := fun a j w => by rw [← hg]; exact cTk_ne (by omega)
      obtain ⟨e3, e4, t2, er, ew, et⟩ := hH1
      have eg : cN q g = g := cN_self e3 e4
      have ck := check_e (n := n) (st := (tkS u N x : Nat)) (q := q) hof hi hl hc1.2.2.2 er ew (by omega)
      rw [eg] at ck
      rw [ck, xb_some, cN_3]
      have v120 : ∀ j, j < lnN ln → g 120 j = tkV u N (tkN u N x (j + 1)) := fun j hjj => by rw [← hg, cTk_ne (by omega)]; exact (hj j hjj).2.1
      have v121 : ∀ j, j < lnN ln → g 121 j = (tkS u N (tkN u N x (j + 1)) : Nat) := fun j hjj => by rw [← hg, cTk_ne (by omega)]; exact (hj j hjj).2.2
      have eq1 : ntL ln (g 120) (g 121) (@nt q (lnAdds ln ∧ t2 (lnC ln) = lnM ln) (Classical.propDecidable _) 3 (tkS u N x : Nat)) (lnN ln) = ntL ln (fun i => tkV u N (tkN u N x (i + 1))) (fun i => (tkS u N (tkN u N x (i + 1)) : Nat)) (@nt q (lnAdds ln ∧ t (lnC ln) = lnM ln) (Classical.propDecidable _) 3 (tkS u N x : Nat)) (lnN ln) := by
        rw [ntL_congr (w := fun i => tkV u N (tkN u N x (i + 1))) (r := fun i => (tkS u N (tkN u N x (i + 1)) : Nat)) (fun i hi' => ⟨v120 i hi', v121 i hi'⟩)]
        by_cases hq : q.1 = 0
        · rw [et hq]
        · rw [ntn hq, ntn hq]
      rw [eq1]
      generalize hQ : ntL ln (fun i => tkV u N (tkN u N x (i + 1))) (fun i => (tkS u N (tkN u N x (i + 1)) : Nat)) (@nt q (lnAdds ln ∧ t (lnC ln) = lnM ln) (Classical.propDecidable _) 3 (tkS u N x : Nat)) (lnN ln) = Q
      by_cases hq0 : Q.1 = 0
      · rw [if_pos hq0]
        have k0 : (ntL ln (fun i => tkV u N (tkN u N x (i + 1))) (fun i => (tkS u N (tkN u N x (i + 1)) : Nat)) (@nt q (lnAdds ln ∧ t (lnC ln) = lnM ln) (Classical.propDecidable _) 3 (tkS u N x : Nat)) (lnN ln)).1 = 0 := by rw [hQ]; exact hq0
        obtain ⟨k1, k2, k3⟩ := ntL_0 k0
        have hq : q.1 = 0 := by
          by_cases hq : q.1 = 0
          · exact hq
          · rw [ntn hq] at k1; exact absurd k1 hq
        have hM : ¬ (lnAdds ln ∧ t (lnC ln) = lnM ln) := by
          intro w
          rw [ntt hq w] at k1
          exact absurd k1 (show ¬ (3 : Int) = 0 by decide)
        have ett := et hq
        subst ett
        obtain ⟨h2, f1, f2, f3⟩ := take_e (n := n) (g := cN Q g) hof hi (cN_P hc1.2.2.2) (er.fr (fun a j _ _ => cN_ne (by omega))) ew hM (fun i hi' => by
          rw [lnB_congr (w := fun i => tkV u N (tkN u N x (i + 1))) (fun j hjj => by rw [cN_ne (by omega)]; exact v120 j (by omega))]
          exact k3 i hi') (by omega)
        rw [f1, xb_some]
        have f120 : lnT ln (cN Q g 120) t2 = lnT ln (fun i => tkV u N (tkN u N x (i + 1))) t2 := lnT_congr (fun i hi' => by rw [cN_ne (by omega)]; exact v120 i hi')
        rw [f120] at f2
        have fne : ∀ a j, ¬ cZ a j → ¬ (a = 80 ∧ (j = 3 ∨ j = 4)) → h2 a j = g a j := fun a j w1 w2 => by rw [f3 a j w1, cN_ne w2]
        refine ⟨1, h2, rfl, ?_, ?_, Or.inr ⟨fun j hjj => (hj j hjj).1, Or.inr ⟨rfl, h4, by rw [fne 80 9 (by unfold cZ; omega) (by omega)]; exact g9, ?_⟩⟩⟩
        · exact (cN_C hc1).fr (f3 4 1 (by unfold cZ; omega)) (fun i => f3 5 i (by unfold cZ; omega)) (fun a j w => f3 a j (cZ_F w))
        · intro a j w
          rw [fne a j (by unfold cZ; omega) (by omega)]
          exact gx a j w
        · rw [hQ]
          refine ⟨by rw [f3 80 3 (by unfold cZ; omega)]; exact cN_3, by rw [f3 80 4 (by unfold cZ; omega)]; exact cN_4, _, f2, ?_, fun _ => rfl⟩
          exact lnT_W (by have := lnIn_j hof hi; omega) ew k3 hM
      · rw [if_neg hq0]
        refine ⟨1, cN Q g, rfl, cN_C hc1, fun a j w => by rw [cN_ne (by omega)]; exact gx a j w, Or.inr ⟨fun j hjj => (hj j hjj).1, Or.inr ⟨rfl, h4, by rw [cN_ne (by omega)]; exact g9, ?_⟩⟩⟩
        rw [hQ]
        exact ⟨cN_3, cN_4, t2, er.fr (fun a j _ _ => cN_ne (by omega)), ew, fun w => absurd w hq0⟩
    · rw [if_neg (fun w => h4 ((tc_3 tkK_4).mp w)), break_e, xb_some, xg_pos (by decide), cTk_8]
      refine ⟨0, _, rfl, cN_C hc1, fun a j w => by rw [cN_ne (by omega), cTk_ne (by omega)], Or.inr ⟨fun j hjj => (hj j hjj).1, Or.inl ⟨rfl, h4, ?_⟩⟩⟩
      exact cN_H hH1 (show (1 : Int) ≠ 0 by decide)
  | succ m ih =>
    intro i n h h1 h2 h3 hc h9 hH hj
    obtain ⟨n, rfl⟩ : ∃ n', n = n' + 1 := ⟨n - 1, by omega⟩
    rw [e_X4_readLine_53, xg_pos (by omega), z, b1, if_pos (by omega), nextToken_e hc h9 (tkN_m hx _) (by omega), xb_some, cTk_7]
    have hc1 := cTk_C (x := tkN u N x (i + 1)) hc
    have hH1 := cTk_H (u := u) (N := N) (x := tkN u N x (i + 1)) hH
    by_cases hk : tkK u N (tkN u N x (i + 1)) = 3
    · rw [if_pos ((tc_2 tkK_4).mpr hk), xg_pos (hc1.2.2.2.p (by decide)), number_e hc1 cTk_8 cTk_9 hk (by omega), xb_some, xg_pos (by omega), xg_pos (hc1.2.2.2.p (by decide)), xg_pos (by omega), xg_pos (by omega), cTk_8, Int.toNat_natCast, show (i : Int) + 1 = ((i + 1 : Nat) : Int) by omega]
      generalize hg : cTk u N (tkN u N x (i + 1)) h = g at *
      have cf1 : ∀ a j, (a = 120 ∨ a = 121) → cF a j = false := fun a j w => by
        unfold cF
        rw [List.any_eq_false]
        intro p hp
        have : ∀ p ∈ cPL, p.1 ≠ 120 ∧ p.1 ≠ 121 := by decide +kernel
        have := this p hp
        simp
        omega
      have hc2 : cC u N (zup (zup g 120 i (tkV u N (tkN u N x (i + 1)))) 121 i (tkS u N (tkN u N x (i + 1)) : Nat)) := (hc1.up (by omega) (by decide) (cf1 _ _ (Or.inl rfl))).up (by omega) (by decide) (cf1 _ _ (Or.inr rfl))
      have g9 : g 80 9 = (tkE u N (tkN u N x (i + 1)) : Nat) := by rw [← hg]; exact cTk_9
      obtain ⟨v, h2', r1, r2, r3, r4⟩ := ih (i + 1) n _ (by omega) (by omega) (by omega) hc2 (by rw [zup_ne (by omega), zup_ne (by omega)]; exact g9) (hH1.fr (by rw [zup_ne (by omega), zup_ne (by omega)]) (by rw [zup_ne (by omega), zup_ne (by omega)]) (fun a j _ _ => by rw [zup_ne (by omega), zup_ne (by omega)])) (fun j hjj => by
        by_cases e : j = i
        · subst e
          exact ⟨hk, by rw [zup_ne (by omega), zup_at], by rw [zup_at]⟩
        · rw [zup_ne (by omega), zup_ne (by omega), zup_ne (by omega), zup_ne (by omega), ← hg, cTk_ne (by omega), cTk_ne (by omega)]
          exact hj j (by omega))
      refine ⟨v, h2', r1, r2, fun a j w => ?_, r4⟩
      rw [r3 a j w, zup_ne (by omega), zup_ne (by omega), ← hg, cTk_ne (by omega)]
    · rw [if_neg (fun w => hk ((tc_2 tkK_4).mp w)), break_e, xb_some, xg_pos (by decide), cTk_8]
      refine ⟨0, _, rfl, cN_C hc1, fun a j w => by rw [cN_ne (by omega), cTk_ne (by omega)], Or.inl ⟨rfl, i, by omega, hk, fun j hjj => (hj j hjj).1, ?_⟩⟩
      exact cN_H hH1 (show (1 : Int) ≠ 0 by decide)
end
