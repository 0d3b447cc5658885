/-! the class: lines by their words -/
theorem on3_l {u : Nat → Int} {N s ln : Nat} {x2 : Int} {h : yH} (hc : cC u N h) (h8 : h 80 8 = (s : Int)) (hx2 : x2 = 1000000 + (ln : Int)) (hl : ln < 15) (hE : s + zSl.getD ln 0 ≤ N) : ∀ (m i n : Nat), zSl.getD ln 0 - i = m → i ≤ zSl.getD ln 0 → m < n → ∃ v, xl_X4_isOnTape_3 n 20 [80, 4, x2, (i : Int)] h = some (v, h) ∧ (v = 0 ∨ v = 1) ∧ (v ≠ 0 ↔ ∀ j, i ≤ j → j < zSl.getD ln 0 → u (s + j) = zch ln j) := by
  have e1 := hc.1
  have e2 := hc.2.1
  have hln : (x2 - 1000000).toNat = ln := by omega
  have w3 := zSl_b ⟨ln, hl⟩
  simp only at w3
  intro m
  induction m with
  | zero =>
    intro i n h1 h2 h3
    obtain ⟨n, rfl⟩ : ∃ n', n = n' + 1 := ⟨n - 1, by omega⟩
    rw [e_X4_isOnTape_3_20, hln, xg_pos (by omega), if_neg (by omega)]
    exact ⟨1, rfl, Or.inr rfl, fun _ j a b => by omega, fun _ => by decide⟩
  | succ m ih =>
    intro i n h1 h2 h3
    obtain ⟨n, rfl⟩ : ∃ n', n = n' + 1 := ⟨n - 1, by omega⟩
    rw [e_X4_isOnTape_3_20, hln, xg_pos (by omega), if_pos (by omega), h8, xg_pos (by omega), show (s : Int) + (i : Int) = ((s + i : Nat) : Int) by omega, byteAt_lt hc (by omega), xb_some, xg_pos (by omega), xg_pos (by omega), Int.toNat_natCast]
    by_cases hz : u (s + i) = zch ln i
    · rw [if_pos hz, xg_pos (by omega)]
      obtain ⟨v, g1, g2, g3⟩ := ih (i + 1) n (by omega) (by omega) (by omega)
      refine ⟨v, g1, g2, g3.trans ⟨fun w j a b => ?_, fun w j a b => w j (by omega) b⟩⟩
      by_cases hj : j = i
      · rw [hj]; exact hz
      · exact w j (by omega) b
    · rw [if_neg hz]
      exact ⟨0, rfl, Or.inl rfl, fun w => absurd rfl w, fun w => absurd (w i (by omega) (by omega)) hz⟩
theorem on3_e {u : Nat → Int} {N x n ln : Nat} {x2 : Int} {h : yH} (hc : cC u N h) (h8 : h 80 8 = (tkS u N x : Int)) (h9 : h 80 9 = (tkE u N x : Int)) (hk : tkK u N x = 2) (hx : x ≤ N) (hx2 : x2 = 1000000 + (ln : Int)) (hl : ln < 15) (hn : 10 ≤ n) : ∃ v, f_X4_isOnTape_3 n [80, 4, x2] h = some (v, h) ∧ (v = 0 ∨ v = 1) ∧ (v ≠ 0 ↔ lnW.getD ln 0 = tkW u N x) := by
  have hln : (x2 - 1000000).toNat = ln := by omega
  have w3 := zSl_b ⟨ln, hl⟩
  simp only at w3
  have e2 := hc.2.1
  have gE : tkE u N x ≤ N := tkE_n hx
  have gS : tkS u N x ≤ N := tkS_n hx
  have gL : tkS u N x ≤ tkE u N x := tkS_E
  rw [e_X4_isOnTape_3, hln, xg_pos (by omega), h9, h8, xg_pos (by omega)]
  have hw := word_i (u := u) (N := N) (x := x) (ln := ln) (fun i hi => hc.b hi) hk hl hx
  by_cases hL : ((zSl.getD ln 0 : Nat) : Int) = (tkE u N x : Int) - (tkS u N x : Int)
  · rw [if_pos hL]
    obtain ⟨v, g1, g2, g3⟩ := on3_l hc h8 hx2 hl (by omega) (zSl.getD ln 0) 0 n (by omega) (by omega) (by omega)
    refine ⟨v, g1, g2, ?_⟩
    rw [hw, g3]
    exact ⟨fun w => ⟨by omega, fun j hj => w j (by omega) hj⟩, fun w j _ hj => w.2 j hj⟩
  · rw [if_neg hL]
    refine ⟨0, rfl, Or.inl rfl, fun w => absurd rfl w, fun w => ?_⟩
    exact absurd (hw.mp w).1 (by omega)
theorem on4_l {u : Nat → Int} {N s ln : Nat} {x2 : Int} {h : yH} (hc : cC u N h) (h8 : h 80 8 = (s : Int)) (hx2 : x2 = 1000000 + (ln : Int)) (hl : ln < 15) (hE : s + zSl.getD ln 0 ≤ N) : ∀ (m i n : Nat), zSl.getD ln 0 - i = m → i ≤ zSl.getD ln 0 → m < n → ∃ v, xl_X4_isOnTape_4 n 20 [80, 4, x2, (i : Int)] h = some (v, h) ∧ (v = 0 ∨ v = 1) ∧ (v ≠ 0 ↔ ∀ j, i ≤ j → j < zSl.getD ln 0 → u (s + j) = zch ln j) := by
  have e1 := hc.1
  have e2 := hc.2.1
  have hln : (x2 - 1000000).toNat = ln := by omega
  have w3 := zSl_b ⟨ln, hl⟩
  simp only at w3
  intro m
  induction m with
  | zero =>
    intro i n h1 h2 h3
    obtain ⟨n, rfl⟩ : ∃ n', n = n' + 1 := ⟨n - 1, by omega⟩
    rw [e_X4_isOnTape_4_20, hln, xg_pos (by omega), if_neg (by omega)]
    exact ⟨1, rfl, Or.inr rfl, fun _ j a b => by omega, fun _ => by decide⟩
  | succ m ih =>
    intro i n h1 h2 h3
    obtain ⟨n, rfl⟩ : ∃ n', n = n' + 1 := ⟨n - 1, by omega⟩
    rw [e_X4_isOnTape_4_20, hln, xg_pos (by omega), if_pos (by omega), h8, xg_pos (by omega), show (s : Int) + (i : Int) = ((s + i : Nat) : Int) by omega, byteAt_lt hc (by omega), xb_some, xg_pos (by omega), xg_pos (by omega), Int.toNat_natCast]
    by_cases hz : u (s + i) = zch ln i
    · rw [if_pos hz, xg_pos (by omega)]
      obtain ⟨v, g1, g2, g3⟩ := ih (i + 1) n (by omega) (by omega) (by omega)
      refine ⟨v, g1, g2, g3.trans ⟨fun w j a b => ?_, fun w j a b => w j (by omega) b⟩⟩
      by_cases hj : j = i
      · rw [hj]; exact hz
      · exact w j (by omega) b
    · rw [if_neg hz]
      exact ⟨0, rfl, Or.inl rfl, fun w => absurd rfl w, fun w => absurd (w i (by omega) (by omega)) hz⟩
theorem on4_e {u : Nat → Int} {N x n ln : Nat} {x2 : Int} {h : yH} (hc : cC u N h) (h8 : h 80 8 = (tkS u N x : Int)) (h9 : h 80 9 = (tkE u N x : Int)) (hk : tkK u N x = 2) (hx : x ≤ N) (hx2 : x2 = 1000000 + (ln : Int)) (hl : ln < 15) (hn : 10 ≤ n) : ∃ v, f_X4_isOnTape_4 n [80, 4, x2] h = some (v, h) ∧ (v = 0 ∨ v = 1) ∧ (v ≠ 0 ↔ lnW.getD ln 0 = tkW u N x) := by
  have hln : (x2 - 1000000).toNat = ln := by omega
  have w3 := zSl_b ⟨ln, hl⟩
  simp only at w3
  have e2 := hc.2.1
  have gE : tkE u N x ≤ N := tkE_n hx
  have gS : tkS u N x ≤ N := tkS_n hx
  have gL : tkS u N x ≤ tkE u N x := tkS_E
  rw [e_X4_isOnTape_4, hln, xg_pos (by omega), h9, h8, xg_pos (by omega)]
  have hw := word_i (u := u) (N := N) (x := x) (ln := ln) (fun i hi => hc.b hi) hk hl hx
  by_cases hL : ((zSl.getD ln 0 : Nat) : Int) = (tkE u N x : Int) - (tkS u N x : Int)
  · rw [if_pos hL]
    obtain ⟨v, g1, g2, g3⟩ := on4_l hc h8 hx2 hl (by omega) (zSl.getD ln 0) 0 n (by omega) (by omega) (by omega)
    refine ⟨v, g1, g2, ?_⟩
    rw [hw, g3]
    exact ⟨fun w => ⟨by omega, fun j hj => w j (by omega) hj⟩, fun w j _ hj => w.2 j hj⟩
  · rw [if_neg hL]
    refine ⟨0, rfl, Or.inl rfl, fun w => absurd rfl w, fun w => ?_⟩
    exact absurd (hw.mp w).1 (by omega)
theorem on5_l {u : Nat → Int} {N s ln : Nat} {x2 : Int} {h : yH} (hc : cC u N h) (h8 : h 80 8 = (s : Int)) (hx2 : x2 = 1000000 + (ln : Int)) (hl : ln < 15) (hE : s + zSl.getD ln 0 ≤ N) : ∀ (m i n : Nat), zSl.getD ln 0 - i = m → i ≤ zSl.getD ln 0 → m < n → ∃ v, xl_X4_isOnTape_5 n 20 [80, 4, x2, (i : Int)] h = some (v, h) ∧ (v = 0 ∨ v = 1) ∧ (v ≠ 0 ↔ ∀ j, i ≤ j → j < zSl.getD ln 0 → u (s + j) = zch ln j) := by
  have e1 := hc.1
  have e2 := hc.2.1
  have hln : (x2 - 1000000).toNat = ln := by omega
  have w3 := zSl_b ⟨ln, hl⟩
  simp only at w3
  intro m
  induction m with
  | zero =>
    intro i n h1 h2 h3
    obtain ⟨n, rfl⟩ : ∃ n', n = n' + 1 := ⟨n - 1, by omega⟩
    rw [e_X4_isOnTape_5_20, hln, xg_pos (by omega), if_neg (by omega)]
    exact ⟨1, rfl, Or.inr rfl, fun _ j a b => by omega, fun _ => by decide⟩
  | succ m ih =>
    intro i n h1 h2 h3
    obtain ⟨n, rfl⟩ : ∃ n', n = n' + 1 := ⟨n - 1, by omega⟩
    rw [e_X4_isOnTape_5_20, hln, xg_pos (by omega), if_pos (by omega), h8, xg_pos (by omega), show (s : Int) + (i : Int) = ((s + i : Nat) : Int) by omega, byteAt_lt hc (by omega), xb_some, xg_pos (by omega), xg_pos (by omega), Int.toNat_natCast]
    by_cases hz : u (s + i) = zch ln i
    · rw [if_pos hz, xg_pos (by omega)]
      obtain ⟨v, g1, g2, g3⟩ := ih (i + 1) n (by omega) (by omega) (by omega)
      refine ⟨v, g1, g2, g3.trans ⟨fun w j a b => ?_, fun w j a b => w j (by omega) b⟩⟩
      by_cases hj : j = i
      · rw [hj]; exact hz
      · exact w j (by omega) b
    · rw [if_neg hz]
      exact ⟨0, rfl, Or.inl rfl, fun w => absurd rfl w, fun w => absurd (w i (by omega) (by omega)) hz⟩
theorem on5_e {u : Nat → Int} {N x n ln : Nat} {x2 : Int} {h : yH} (hc : cC u N h) (h8 : h 80 8 = (tkS u N x : Int)) (h9 : h 80 9 = (tkE u N x : Int)) (hk : tkK u N x = 2) (hx : x ≤ N) (hx2 : x2 = 1000000 + (ln : Int)) (hl : ln < 15) (hn : 10 ≤ n) : ∃ v, f_X4_isOnTape_5 n [80, 4, x2] h = some (v, h) ∧ (v = 0 ∨ v = 1) ∧ (v ≠ 0 ↔ lnW.getD ln 0 = tkW u N x) := by
  have hln : (x2 - 1000000).toNat = ln := by omega
  have w3 := zSl_b ⟨ln, hl⟩
  simp only at w3
  have e2 := hc.2.1
  have gE : tkE u N x ≤ N := tkE_n hx
  have gS : tkS u N x ≤ N := tkS_n hx
  have gL : tkS u N x ≤ tkE u N x := tkS_E
  rw [e_X4_isOnTape_5, hln, xg_pos (by omega), h9, h8, xg_pos (by omega)]
  have hw := word_i (u := u) (N := N) (x := x) (ln := ln) (fun i hi => hc.b hi) hk hl hx
  by_cases hL : ((zSl.getD ln 0 : Nat) : Int) = (tkE u N x : Int) - (tkS u N x : Int)
  · rw [if_pos hL]
    obtain ⟨v, g1, g2, g3⟩ := on5_l hc h8 hx2 hl (by omega) (zSl.getD ln 0) 0 n (by omega) (by omega) (by omega)
    refine ⟨v, g1, g2, ?_⟩
    rw [hw, g3]
    exact ⟨fun w => ⟨by omega, fun j hj => w j (by omega) hj⟩, fun w j _ hj => w.2 j hj⟩
  · rw [if_neg hL]
    refine ⟨0, rfl, Or.inl rfl, fun w => absurd rfl w, fun w => ?_⟩
    exact absurd (hw.mp w).1 (by omega)
theorem tT0 : ∀ of : Fin 3, 0 ≤ (zTv 0).getD of.val 0 ∧ (zTv 0).getD of.val 0 ≤ (zTv 0).getD (of.val + 1) 0 ∧ (zTv 0).getD (of.val + 1) 0 ≤ 15 := by decide +kernel
theorem lnIn_j {of ln : Nat} (hof : of ≤ 2) (hi : lnIn of ln) : (of = 0 ∧ ln < 7) ∨ (of = 1 ∧ 7 ≤ ln ∧ ln < 13) ∨ (of = 2 ∧ 13 ≤ ln ∧ ln < 15) := by
  obtain ⟨h1, h2⟩ := hi
  have z0 : (zTv 0).getD 0 0 = 0 := by decide +kernel
  have z1 : (zTv 0).getD 1 0 = 7 := by decide +kernel
  have z2 : (zTv 0).getD 2 0 = 13 := by decide +kernel
  have z3 : (zTv 0).getD 3 0 = 15 := by decide +kernel
  rcases (show of = 0 ∨ of = 1 ∨ of = 2 by omega) with rfl | rfl | rfl
  · rw [z0] at h1; rw [show 0 + 1 = 1 from rfl, z1] at h2; omega
  · rw [z1] at h1; rw [show 1 + 1 = 2 from rfl, z2] at h2; omega
  · rw [z2] at h1; rw [show 2 + 1 = 3 from rfl, z3] at h2; omega
theorem line_s {u : Nat → Int} {N x n of ln : Nat} {h : yH} (hof : of ≤ 2) (hc : cC u N h) (h8 : h 80 8 = (tkS u N x : Int)) (h9 : h 80 9 = (tkE u N x : Int)) (hk : tkK u N x = 2) (hx : x ≤ N) (hi : lnIn of ln) (hn : 10 ≤ n) : ∃ v : Int, (v ≠ 0 ↔ lnW.getD ln 0 = tkW u N x) ∧ xl_X4_lineOf (n + 1) 6 [80, 4, (of : Int), (ln : Int)] h = if v = 0 then xl_X4_lineOf n 6 [80, 4, (of : Int), ((ln + 1 : Nat) : Int)] h else some ((ln : Int), h) := by
  have hii := lnIn_j hof hi
  rcases hii with ⟨rfl, hl⟩ | ⟨rfl, hl⟩ | ⟨rfl, hl⟩
  · rcases (show ln = 0 ∨ ln = 1 ∨ ln = 2 ∨ ln = 3 ∨ ln = 4 ∨ ln = 5 ∨ ln = 6 by omega) with rfl | rfl | rfl | rfl | rfl | rfl | rfl
    · obtain ⟨v, g1, g2, g3⟩ := on4_e (ln := 0) (x2 := 1000000) (n := n) hc h8 h9 hk hx (by decide) (by decide) hn
      refine ⟨v, g3, ?_⟩
      rw [show ((0 : Nat) : Int) = 0 from rfl, show ((0 + 1 : Nat) : Int) = 1 from rfl, e_X4_lineOf_c0, e_X4_wordOf_4, if_pos (show (0 : Int) = 0 by decide), xb_some, xg_pos (by decide), g1, xb_some]
    · obtain ⟨v, g1, g2, g3⟩ := on4_e (ln := 1) (x2 := 1000001) (n := n) hc h8 h9 hk hx (by decide) (by decide) hn
      refine ⟨v, g3, ?_⟩
      rw [show ((0 : Nat) : Int) = 0 from rfl, show ((1 : Nat) : Int) = 1 from rfl, show ((1 + 1 : Nat) : Int) = 2 from rfl, e_X4_lineOf_c1, e_X4_wordOf_4, if_neg (show ¬ (1 : Int) = 0 by decide), if_pos (show (1 : Int) = 1 by decide), xb_some, xg_pos (by decide), g1, xb_some]
    · obtain ⟨v, g1, g2, g3⟩ := on4_e (ln := 2) (x2 := 1000002) (n := n) hc h8 h9 hk hx (by decide) (by decide) hn
      refine ⟨v, g3, ?_⟩
      rw [show ((0 : Nat) : Int) = 0 from rfl, show ((2 : Nat) : Int) = 2 from rfl, show ((2 + 1 : Nat) : Int) = 3 from rfl, e_X4_lineOf_c2, e_X4_wordOf_4, if_neg (show ¬ (2 : Int) = 0 by decide), if_neg (show ¬ (2 : Int) = 1 by decide), if_pos (show (2 : Int) = 2 by decide), xb_some, xg_pos (by decide), g1, xb_some]
    · obtain ⟨v, g1, g2, g3⟩ := on5_e (ln := 3) (x2 := 1000003) (n := n) hc h8 h9 hk hx (by decide) (by decide) hn
      refine ⟨v, g3, ?_⟩
      rw [show ((0 : Nat) : Int) = 0 from rfl, show ((3 : Nat) : Int) = 3 from rfl, show ((3 + 1 : Nat) : Int) = 4 from rfl, e_X4_lineOf_c3, e_X4_wordOf_5, if_neg (show ¬ (3 : Int) = 0 by decide), if_neg (show ¬ (3 : Int) = 1 by decide), if_neg (show ¬ (3 : Int) = 2 by decide), if_pos (show (3 : Int) = 3 by decide), xb_some, xg_pos (by decide), g1, xb_some]
    · obtain ⟨v, g1, g2, g3⟩ := on5_e (ln := 4) (x2 := 1000004) (n := n) hc h8 h9 hk hx (by decide) (by decide) hn
      refine ⟨v, g3, ?_⟩
      rw [show ((0 : Nat) : Int) = 0 from rfl, show ((4 : Nat) : Int) = 4 from rfl, show ((4 + 1 : Nat) : Int) = 5 from rfl, e_X4_lineOf_c4, e_X4_wordOf_5, if_neg (show ¬ (4 : Int) = 0 by decide), if_neg (show ¬ (4 : Int) = 1 by decide), if_neg (show ¬ (4 : Int) = 2 by decide), if_neg (show ¬ (4 : Int) = 3 by decide), if_pos (show (4 : Int) = 4 by decide), xb_some, xg_pos (by decide), g1, xb_some]
    · obtain ⟨v, g1, g2, g3⟩ := on4_e (ln := 5) (x2 := 1000005) (n := n) hc h8 h9 hk hx (by decide) (by decide) hn
      refine ⟨v, g3, ?_⟩
      rw [show ((0 : Nat) : Int) = 0 from rfl, show ((5 : Nat) : Int) = 5 from rfl, show ((5 + 1 : Nat) : Int) = 6 from rfl, e_X4_lineOf_c5, e_X4_wordOf_4, if_neg (show ¬ (5 : Int) = 0 by decide), if_neg (show ¬ (5 : Int) = 1 by decide), if_neg (show ¬ (5 : Int) = 2 by decide), if_neg (show ¬ (5 : Int) = 3 by decide), if_neg (show ¬ (5 : Int) = 4 by decide), if_pos (show (5 : Int) = 5 by decide), xb_some, xg_pos (by decide), g1, xb_some]
    · obtain ⟨v, g1, g2, g3⟩ := on4_e (ln := 6) (x2 := 1000006) (n := n) hc h8 h9 hk hx (by decide) (by decide) hn
      refine ⟨v, g3, ?_⟩
      rw [show ((0 : Nat) : Int) = 0 from rfl, show ((6 : Nat) : Int) = 6 from rfl, show ((6 + 1 : Nat) : Int) = 7 from rfl, e_X4_lineOf_c6, e_X4_wordOf_4, if_neg (show ¬ (6 : Int) = 0 by decide), if_neg (show ¬ (6 : Int) = 1 by decide), if_neg (show ¬ (6 : Int) = 2 by decide), if_neg (show ¬ (6 : Int) = 3 by decide), if_neg (show ¬ (6 : Int) = 4 by decide), if_neg (show ¬ (6 : Int) = 5 by decide), if_pos (show (6 : Int) = 6 by decide), xb_some, xg_pos (by decide), g1, xb_some]
  · rcases (show ln = 7 ∨ ln = 8 ∨ ln = 9 ∨ ln = 10 ∨ ln = 11 ∨ ln = 12 by omega) with rfl | rfl | rfl | rfl | rfl | rfl
    · obtain ⟨v, g1, g2, g3⟩ := on3_e (ln := 7) (x2 := 1000007) (n := n) hc h8 h9 hk hx (by decide) (by decide) hn
      refine ⟨v, g3, ?_⟩
      rw [show ((1 : Nat) : Int) = 1 from rfl, show ((7 : Nat) : Int) = 7 from rfl, show ((7 + 1 : Nat) : Int) = 8 from rfl, e_X4_lineOf_c7, e_X4_wordOf_3, if_neg (show ¬ (7 : Int) = 0 by decide), if_neg (show ¬ (7 : Int) = 1 by decide), if_neg (show ¬ (7 : Int) = 2 by decide), if_neg (show ¬ (7 : Int) = 3 by decide), if_neg (show ¬ (7 : Int) = 4 by decide), if_neg (show ¬ (7 : Int) = 5 by decide), if_neg (show ¬ (7 : Int) = 6 by decide), if_pos (show (7 : Int) = 7 by decide), xb_some, xg_pos (by decide), g1, xb_some]
    · obtain ⟨v, g1, g2, g3⟩ := on5_e (ln := 8) (x2 := 1000008) (n := n) hc h8 h9 hk hx (by decide) (by decide) hn
      refine ⟨v, g3, ?_⟩
      rw [show ((1 : Nat) : Int) = 1 from rfl, show ((8 : Nat) : Int) = 8 from rfl, show ((8 + 1 : Nat) : Int) = 9 from rfl, e_X4_lineOf_c8, e_X4_wordOf_5, if_neg (show ¬ (8 : Int) = 0 by decide), if_neg (show ¬ (8 : Int) = 1 by decide), if_neg (show ¬ (8 : Int) = 2 by decide), if_neg (show ¬ (8 : Int) = 3 by decide), if_neg (show ¬ (8 : Int) = 4 by decide), if_neg (show ¬ (8 : Int) = 5 by decide), if_neg (show ¬ (8 : Int) = 6 by decide), if_neg (show ¬ (8 : Int) = 7 by decide), if_pos (show (8 : Int) = 8 by decide), xb_some, xg_pos (by decide), g1, xb_some]
    · obtain ⟨v, g1, g2, g3⟩ := on3_e (ln := 9) (x2 := 1000009) (n := n) hc h8 h9 hk hx (by decide) (by decide) hn
      refine ⟨v, g3, ?_⟩
      rw [show ((1 : Nat) : Int) = 1 from rfl, show ((9 : Nat) : Int) = 9 from rfl, show ((9 + 1 : Nat) : Int) = 10 from rfl, e_X4_lineOf_c9, e_X4_wordOf_3, if_neg (show ¬ (9 : Int) = 0 by decide), if_neg (show ¬ (9 : Int) = 1 by decide), if_neg (show ¬ (9 : Int) = 2 by decide), if_neg (show ¬ (9 : Int) = 3 by decide), if_neg (show ¬ (9 : Int) = 4 by decide), if_neg (show ¬ (9 : Int) = 5 by decide), if_neg (show ¬ (9 : Int) = 6 by decide), if_neg (show ¬ (9 : Int) = 7 by decide), if_neg (show ¬ (9 : Int) = 8 by decide), if_pos (show (9 : Int) = 9 by decide), xb_some, xg_pos (by decide), g1, xb_some]
    · obtain ⟨v, g1, g2, g3⟩ := on5_e (ln := 10) (x2 := 1000010) (n := n) hc h8 h9 hk hx (by decide) (by decide) hn
      refine ⟨v, g3, ?_⟩
      rw [show ((1 : Nat) : Int) = 1 from rfl, show ((10 : Nat) : Int) = 10 from rfl, show ((10 + 1 : Nat) : Int) = 11 from rfl, e_X4_lineOf_c10, e_X4_wordOf_5, if_neg (show ¬ (10 : Int) = 0 by decide), if_neg (show ¬ (10 : Int) = 1 by decide), if_neg (show ¬ (10 : Int) = 2 by decide), if_neg (show ¬ (10 : Int) = 3 by decide), if_neg (show ¬ (10 : Int) = 4 by decide), if_neg (show ¬ (10 : Int) = 5 by decide), if_neg (show ¬ (10 : Int) = 6 by decide), if_neg (show ¬ (10 : Int) = 7 by decide), if_neg (show ¬ (10 : Int) = 8 by decide), if_neg (show ¬ (10 : Int) = 9 by decide), if_pos (show (10 : Int) = 10 by decide), xb_some, xg_pos (by decide), g1, xb_some]
    · obtain ⟨v, g1, g2, g3⟩ := on3_e (ln := 11) (x2 := 1000011) (n := n) hc h8 h9 hk hx (by decide) (by decide) hn
      refine ⟨v, g3, ?_⟩
      rw [show ((1 : Nat) : Int) = 1 from rfl, show ((11 : Nat) : Int) = 11 from rfl, show ((11 + 1 : Nat) : Int) = 12 from rfl, e_X4_lineOf_c11, e_X4_wordOf_3, if_neg (show ¬ (11 : Int) = 0 by decide), if_neg (show ¬ (11 : Int) = 1 by decide), if_neg (show ¬ (11 : Int) = 2 by decide), if_neg (show ¬ (11 : Int) = 3 by decide), if_neg (show ¬ (11 : Int) = 4 by decide), if_neg (show ¬ (11 : Int) = 5 by decide), if_neg (show ¬ (11 : Int) = 6 by decide), if_neg (show ¬ (11 : Int) = 7 by decide), if_neg (show ¬ (11 : Int) = 8 by decide), if_neg (show ¬ (11 : Int) = 9 by decide), if_neg (show ¬ (11 : Int) = 10 by decide), if_pos (show (11 : Int) = 11 by decide), xb_some, xg_pos (by decide), g1, xb_some]
    · obtain ⟨v, g1, g2, g3⟩ := on4_e (ln := 12) (x2 := 1000012) (n := n) hc h8 h9 hk hx (by decide) (by decide) hn
      refine ⟨v, g3, ?_⟩
      rw [show ((1 : Nat) : Int) = 1 from rfl, show ((12 : Nat) : Int) = 12 from rfl, show ((12 + 1 : Nat) : Int) = 13 from rfl, e_X4_lineOf_c12, e_X4_wordOf_4, if_neg (show ¬ (12 : Int) = 0 by decide), if_neg (show ¬ (12 : Int) = 1 by decide), if_neg (show ¬ (12 : Int) = 2 by decide), if_neg (show ¬ (12 : Int) = 3 by decide), if_neg (show ¬ (12 : Int) = 4 by decide), if_neg (show ¬ (12 : Int) = 5 by decide), if_neg (show ¬ (12 : Int) = 6 by decide), if_neg (show ¬ (12 : Int) = 7 by decide), if_neg (show ¬ (12 : Int) = 8 by decide), if_neg (show ¬ (12 : Int) = 9 by decide), if_neg (show ¬ (12 : Int) = 10 by decide), if_neg (show ¬ (12 : Int) = 11 by decide), if_pos (show (12 : Int) = 12 by decide), xb_some, xg_pos (by decide), g1, xb_some]
  · rcases (show ln = 13 ∨ ln = 14 by omega) with rfl | rfl
    · obtain ⟨v, g1, g2, g3⟩ := on4_e (ln := 13) (x2 := 1000013) (n := n) hc h8 h9 hk hx (by decide) (by decide) hn
      refine ⟨v, g3, ?_⟩
      rw [show ((2 : Nat) : Int) = 2 from rfl, show ((13 : Nat) : Int) = 13 from rfl, show ((13 + 1 : Nat) : Int) = 14 from rfl, e_X4_lineOf_c13, e_X4_wordOf_4, if_neg (show ¬ (13 : Int) = 0 by decide), if_neg (show ¬ (13 : Int) = 1 by decide), if_neg (show ¬ (13 : Int) = 2 by decide), if_neg (show ¬ (13 : Int) = 3 by decide), if_neg (show ¬ (13 : Int) = 4 by decide), if_neg (show ¬ (13 : Int) = 5 by decide), if_neg (show ¬ (13 : Int) = 6 by decide), if_neg (show ¬ (13 : Int) = 7 by decide), if_neg (show ¬ (13 : Int) = 8 by decide), if_neg (show ¬ (13 : Int) = 9 by decide), if_neg (show ¬ (13 : Int) = 10 by decide), if_neg (show ¬ (13 : Int) = 11 by decide), if_neg (show ¬ (13 : Int) = 12 by decide), if_pos (show (13 : Int) = 13 by decide), xb_some, xg_pos (by decide), g1, xb_some]
    · obtain ⟨v, g1, g2, g3⟩ := on5_e (ln := 14) (x2 := 1000014) (n := n) hc h8 h9 hk hx (by decide) (by decide) hn
      refine ⟨v, g3, ?_⟩
      rw [show ((2 : Nat) : Int) = 2 from rfl, show ((14 : Nat) : Int) = 14 from rfl, show ((14 + 1 : Nat) : Int) = 15 from rfl, e_X4_lineOf_c14, e_X4_wordOf_5, if_neg (show ¬ (14 : Int) = 0 by decide), if_neg (show ¬ (14 : Int) = 1 by decide), if_neg (show ¬ (14 : Int) = 2 by decide), if_neg (show ¬ (14 : Int) = 3 by decide), if_neg (show ¬ (14 : Int) = 4 by decide), if_neg (show ¬ (14 : Int) = 5 by decide), if_neg (show ¬ (14 : Int) = 6 by decide), if_neg (show ¬ (14 : Int) = 7 by decide), if_neg (show ¬ (14 : Int) = 8 by decide), if_neg (show ¬ (14 : Int) = 9 by decide), if_neg (show ¬ (14 : Int) = 10 by decide), if_neg (show ¬ (14 : Int) = 11 by decide), if_neg (show ¬ (14 : Int) = 12 by decide), if_neg (show ¬ (14 : Int) = 13 by decide), xb_some, xg_pos (by decide), g1, xb_some]
theorem lnW_i : ∀ a b : Fin 15, lnW.getD a.val 0 = lnW.getD b.val 0 → a = b := by decide +kernel
theorem lineOf_l {u : Nat → Int} {N x of : Nat} {h : yH} (hof : of ≤ 2) (hc : cC u N h) (h8 : h 80 8 = (tkS u N x : Int)) (h9 : h 80 9 = (tkE u N x : Int)) (hk : tkK u N x = 2) (hx : x ≤ N) : ∀ (m ln n : Nat), 15 - ln = m → 10 + m < n → (zTv 0).getD of 0 ≤ (ln : Int) → (ln : Int) ≤ (zTv 0).getD (of + 1) 0 → (∀ j, j < ln → lnIn of j → lnW.getD j 0 ≠ tkW u N x) → xl_X4_lineOf n 6 [80, 4, (of : Int), (ln : Int)] h = some (if lnAt u N of x = 15 then -1 else (lnAt u N of x : Int), h) := by
  have w0 := tT0 ⟨of, by omega⟩
  simp only at w0
  have fin : ∀ ln n : Nat, (ln : Int) = (zTv 0).getD (of + 1) 0 → (∀ j, j < ln → lnIn of j → lnW.getD j 0 ≠ tkW u N x) → xl_X4_lineOf (n + 1) 6 [80, 4, (of : Int), (ln : Int)] h = some (if lnAt u N of x = 15 then -1 else (lnAt u N of x : Int), h) := by
    intro ln n e1 e2
    have z1 : (zTv 0).getD 1 0 = 7 := by decide +kernel
    have z2 : (zTv 0).getD 2 0 = 13 := by decide +kernel
    have z3 : (zTv 0).getD 3 0 = 15 := by decide +kernel
    have ez : xl_X4_lineOf (n + 1) 6 [80, 4, (of : Int), (ln : Int)] h = some (-1, h) := by
      rcases (show of = 0 ∨ of = 1 ∨ of = 2 by omega) with rfl | rfl | rfl
      · rw [show 0 + 1 = 1 from rfl, z1] at e1
        obtain rfl : ln = 7 := by omega
        exact e_X4_lineOf_z0
      · rw [show 1 + 1 = 2 from rfl, z2] at e1
        obtain rfl : ln = 13 := by omega
        exact e_X4_lineOf_z1
      · rw [show 2 + 1 = 3 from rfl, z3] at e1
        obtain rfl : ln = 15 := by omega
        exact e_X4_lineOf_z2
    rw [ez, if_pos]
    by_cases w : lnAt u N of x = 15
    · exact w
    · obtain ⟨-, g1, g2⟩ := lnAt_p w
      have := g1.2
      exact absurd g2 (e2 _ (by omega) g1)
  intro m
  induction m with
  | zero =>
    intro ln n h1 h2 h3 h4 h5
    obtain ⟨n, rfl⟩ : ∃ n', n = n' + 1 := ⟨n - 1, by omega⟩
    exact fin ln n (by omega) h5
  | succ m ih =>
    intro ln n h1 h2 h3 h4 h5
    obtain ⟨n, rfl⟩ : ∃ n', n = n' + 1 := ⟨n - 1, by omega⟩
    by_cases h6 : (ln : Int) = (zTv 0).getD (of + 1) 0
    · exact fin ln n h6 h5
    · obtain ⟨v, g1, g2⟩ := line_s (n := n) (ln := ln) hof hc h8 h9 hk hx ⟨h3, by omega⟩ (by omega)
      rw [g2]
      by_cases hv : v = 0
      · rw [if_pos hv]
        refine ih (ln + 1) n (by omega) (by omega) (by omega) (by omega) (fun j hj hi => ?_)
        by_cases e : j = ln
        · rw [e]; exact fun w => absurd hv (g1.mpr w)
        · exact h5 j (by omega) hi
      · rw [if_neg hv]
        have hm := g1.mp hv
        have hne : lnAt u N of x ≠ 15 := by
          intro w
          have := lnAt_n w (ln := ln) (by omega) ⟨h3, by omega⟩
          rw [if_pos hk] at this
          exact this hm.symm
        obtain ⟨-, k1, k2⟩ := lnAt_p hne
        have k3 := k1.2
        have hlt : lnAt u N of x < 15 := by omega
        have := lnW_i ⟨ln, by omega⟩ ⟨lnAt u N of x, hlt⟩ (by simp only; rw [hm, k2])
        have he : ln = lnAt u N of x := congrArg Fin.val this
        rw [if_neg hne, ← he]
theorem lineOf_e {u : Nat → Int} {N n x of : Nat} {h : yH} (hof : of ≤ 2) (hc : cC u N h) (h8 : h 80 8 = (tkS u N x : Int)) (h9 : h 80 9 = (tkE u N x : Int)) (hk : tkK u N x = 2) (hx : x ≤ N) (hn : 30 ≤ n) : f_X4_lineOf n [80, 4, (of : Int)] h = some (if lnAt u N of x = 15 then -1 else (lnAt u N of x : Int), h) := by
  have w0 := tT0 ⟨of, by omega⟩
  simp only at w0
  rw [e_X4_lineOf, xg_pos (by omega), show ((of : Int) + 0).toNat = of by omega]
  obtain ⟨f, hf⟩ : ∃ f : Nat, (zTv 0).getD of 0 = (f : Int) := ⟨((zTv 0).getD of 0).toNat, by omega⟩
  rw [hf]
  exact lineOf_l hof hc h8 h9 hk hx (15 - f) f n rfl (by omega) (by omega) (by omega) (fun j hj hi => by have := hi.1; omega)
/-! faults are noted -/
def cN (q : Int × Int) (h : yH) : yH := zup (zup h 80 3 q.1) 80 4 q.2
theorem cN_cN (q q2 : Int × Int) (h : yH) : cN q2 (cN q h) = cN q2 h := by
  funext b i
  unfold cN
  simp only [zup_app]
  split
  · rfl
  · split
    · rfl
    · rfl
theorem cN_self {q : Int × Int} {h : yH} (h3 : h 80 3 = q.1) (h4 : h 80 4 = q.2) : cN q h = h := by
  unfold cN
  rw [← h3, zup_self, ← h4, zup_self]
theorem cN_3 {q : Int × Int} {h : yH} : cN q h 80 3 = q.1 := by unfold cN; rw [zup_ne (by omega), zup_at]
theorem cN_4 {q : Int × Int} {h : yH} : cN q h 80 4 = q.2 := by unfold cN; rw [zup_at]
theorem cN_ne {q : Int × Int} {h : yH} {a j : Nat} (w : ¬ (a = 80 ∧ (j = 3 ∨ j = 4))) : cN q h a j = h a j := by unfold cN; rw [zup_ne (by omega), zup_ne (by omega)]
theorem cN_C {u : Nat → Int} {N : Nat} {q : Int × Int} {h : yH} (hc : cC u N h) : cC u N (cN q h) := (hc.up (by decide) (by decide) (by decide)).up (by decide) (by decide) (by decide)
theorem cN_P {q : Int × Int} {h : yH} (hc : cP h) : cP (cN q h) := (hc.up (by decide)).up (by decide)
theorem ntf {q : Int × Int} {c : Prop} {dc : Decidable c} {f p : Int} (h : ¬ c) : nt q c f p = q := nt_f h
theorem ntt {q : Int × Int} {c : Prop} {dc : Decidable c} {f p : Int} (h0 : q.1 = 0) (h : c) : nt q c f p = (f, p) := nt_t h0 h
theorem ntn {q : Int × Int} {c : Prop} {dc : Decidable c} {f p : Int} (h0 : ¬ q.1 = 0) : nt q c f p = q := nt_n h0
theorem note_e {n : Nat} {q : Int × Int} {f p : Int} {c : Prop} {dc : Decidable c} {h : yH} (hf : 0 ≤ f ∧ f ≤ 4) (hcc : c) : f_X4_note n [80, f, p] (cN q h) = some (0, cN (nt q c f p) h) := by
  rw [e_X4_note, cN_3]
  by_cases hq : q.1 = 0
  · rw [if_pos hq, xg_pos hf, ntt hq hcc]
    show some (0, cN (f, p) (cN q h)) = _
    rw [cN_cN]
  · rw [if_neg hq, ntn hq]

