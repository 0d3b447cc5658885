section
/-! claimed, shares -/
theorem dyK.mix {h g hA gA hB : yH} (D : dyK h g hA gA) (hL : lnI h) (hl : h 4 1 ≤ 600) (hp : cPr hB) (f : frC h hB) : dyK h g hB gA := by
  obtain ⟨k1, k2, k3, k4⟩ := D
  have e : ∀ a j, a < 130 ∨ 142 ≤ a → hB a j = hA a j := fun a j w => (f a j w).trans (k3 a j w).symm
  refine ⟨k1.hf (fun k hk => ?_) ?_ (fun a j w => e a j (by omega)), hp, f, k4⟩
  · rw [k3 _ _ (by omega), k3 2 k (by omega)]
    exact hL k hk
  · rw [k3 _ _ (by omega)]
    exact hl
theorem add1_e {k : Int} (hk : -2147483648 ≤ k ∧ k < 2147483647) : yari 0 k 1 = k + 1 := by
  unfold yari
  show (Int32.ofInt k + Int32.ofInt 1).toInt = k + 1
  rw [Int32.toInt_add, Int32.toInt_ofInt_of_le (by omega) (by omega), show (Int32.ofInt 1).toInt = 1 from by decide, Int.bmod_eq_of_le (by omega) (by omega)]
/-- the reference's day alone -/
theorem layX {m n : Nat} {x y : Int} {h g : yH} (hn : 300 ≤ n) (hm : 300 ≤ m) (R : RR True h g) (hW : WH g) (hp : cPr h) (h13 : h 1 3 = 130) (hL : lnI h) (hl : h 4 1 ≤ 600) (hq : rQ g) (h4 : ∀ j, j < 12 → 0 ≤ g 4 j ∧ g 4 j ≤ 2) :
    ∃ w g2, f_X12_layDay m [35, x, y] (zup g 35 0 0) = some (w, g2) ∧ dyK h g h g2 ∧ (w = 0 ∨ (w = 1 ∧ 0 ≤ g2 35 34 ∧ g2 35 34 ≤ 30)) := by
  obtain ⟨v, h2, g2, e1, e2, e13, kk, e3⟩ := stopD (x := x) (y := y) hn hm R hW hp h13 hL hl hq h4
  refine ⟨v, g2, e2, kk.mix hL hl hp frC.r, ?_⟩
  rcases e3 with ev | ⟨ev, e3⟩
  · exact Or.inl ev
  · obtain ⟨b, e, s, dd, t, d, S, q, c, k2, p, hT, D, -, -, z, -, -⟩ := e3
    exact Or.inr ⟨ev, D.2.2.1.2.1⟩
/-- the class behind no state -/
theorem stateN {n : Nat} {x y : Int} {h g : yH} (hn : 300 ≤ n) (R : RR True h g) (hW : WH g) (hp : cPr h) (h13 : h 1 3 = 130) (hq : rQ g) (h4 : ∀ j, j < 12 → 0 ≤ g 4 j ∧ g 4 j ≤ 2) : ∃ h2, f_X11_runToState n [1, x, y, -2147483648] h = some (0, h2) ∧ cPr h2 ∧ frC h h2 := by
  obtain ⟨v, h2, g2, e1, -, e3⟩ := toState2 (m := 300) (x := x) (y := y) (z := -2147483648) hn (by decide) R hW hp h13 hq h4
  rcases e3 with ⟨ev, e3⟩ | ⟨ev, e3⟩
  · rw [ev] at e1
    exact ⟨h2, e1, e3.1, e3.2.1⟩
  · obtain ⟨b, e, s, dd, t, d, S, q, c, p, hT, D, hz, -, -⟩ := e3
    have := D.2.2.1.2.1
    omega
theorem RR_claimed {m n : Nat} {x y k w : Int} {h g : yH} (hn : 300 ≤ n) (hm : 300 ≤ m) (hk : -2147483648 ≤ k ∧ k ≤ 2147483647) (R : RR True h g) (hW : WH g) (hp : cPr h) (h13 : h 1 3 = 130) (hL : lnI h) (hl : h 4 1 ≤ 600) (hq : rQ g) (h4 : ∀ j, j < 12 → 0 ≤ g 4 j ∧ g 4 j ≤ 2) : ∃ v h2 g2, f_X11_claimed n [1, x, y, k, w] h = some (v, h2) ∧ f_X12_claimed m [35, x, y, k, w] g = some (v, g2) ∧ dyK h g h2 g2 := by
  obtain ⟨wL, gL, eL, kL, zL⟩ := layX (n := n) (m := m) (x := x) (y := y) hn hm R hW hp h13 hL hl hq h4
  have eN : ¬ (0 ≤ k ∧ k ≤ 29) → f_X12_claimed m [35, x, y, k, w] g = some (-1, gL) := fun c => by
    rcases zL with ev | ⟨ev, z⟩
    · rw [e_X12_claimed, eL, xb_some, if_pos ev]
    · rw [e_X12_claimed, eL, xb_some, if_neg (by omega), xg_pos (by omega), in_f (by omega), xb_some, if_pos rfl]
  by_cases c0 : k < 0
  · refine ⟨-1, h, gL, ?_, eN (by omega), kL⟩
    rw [e_X11_claimed, if_pos c0]
  by_cases c1 : k = 2147483647
  · obtain ⟨h2, e1, a1, a2⟩ := stateN (n := n) (x := x) (y := y) hn R hW hp h13 hq h4
    refine ⟨-1, h2, gL, ?_, eN (by omega), kL.mix hL hl a1 a2⟩
    rw [e_X11_claimed, if_neg c0, c1, show yari 0 2147483647 1 = -2147483648 from by decide +kernel, e1, xb_some, if_pos rfl]
  obtain ⟨v, w', h2, g2, e1, e2, e13, kk, hh, e3⟩ := deedD (x := x) (y := y) (k := k) hn hm R hW hp h13 hL hl hq h4 (by omega)
  have ea := add1_e (k := k) (by omega)
  rcases e3 with ⟨e4, e5⟩ | ⟨e4, e5, e6⟩ | ⟨e4, e5, e6, e7⟩
  · refine ⟨-1, h2, g2, ?_, ?_, kk⟩
    · rw [e_X11_claimed, if_neg c0, ea, e1, xb_some, if_pos e5]
    · rw [e_X12_claimed, e2, xb_some, if_pos e4]
  · refine ⟨-1, h2, g2, ?_, ?_, kk⟩
    · rw [e_X11_claimed, if_neg c0, ea, e1, xb_some, if_pos e5]
    · rw [e_X12_claimed, e2, xb_some, if_neg (by omega), xg_pos (by omega), in_f (by omega), xb_some, if_pos rfl]
  · obtain ⟨j, rfl⟩ : ∃ j : Nat, k = (j : Int) := ⟨k.toNat, by omega⟩
    rw [Int.toNat_natCast] at e7
    obtain ⟨e, s, dd, t, d, u, G, k1, k30, ⟨q1, q2, q3⟩, r1, r2⟩ := e7
    have e1e : ((e : Int) + 1).toNat = e + 1 := by omega
    have D0 := deedOf_e (m := m) (kk := j) (w := 0) G k30 (by decide)
    rw [show ((0 : Nat) : Int) = 0 from rfl, Nat.add_zero] at D0
    have C0 : ∀ r : yO, (if d (1 + 4 * j) = 1 then (if w = 0 then (xg (h2 1 3 = 130) (some ((h2 130 9), h2))) else (xg (h2 1 3 = 130) (some ((h2 130 8), h2)))) else (if d (1 + 4 * j) = 2 then (if w = 0 then (xg (h2 1 3 = 130) (some ((h2 130 9), h2))) else (xg (h2 1 3 = 130) (some ((h2 130 8), h2)))) else (some ((-1), h2)))) = r → f_X11_claimed n [1, x, y, (j : Int), w] h = r := fun r er => by
      rw [e_X11_claimed, if_neg c0, ea, e1, xb_some, if_neg (by omega), xg_pos e13, q1, xg_pos (by omega), Int.toNat_natCast e, xg_pos q2, xg_pos (by omega), e1e, Int.toNat_natCast j, q3]
      exact er
    have R0 : ∀ r : yO, (if d (1 + 4 * j) = 1 then (if w = 0 then (xg (g2 35 44 = 21) (xg (0 ≤ (j : Int) ∧ (j : Int) < 30) (some ((g2 21 j), g2)))) else (xg (g2 35 45 = 22) (xg (0 ≤ (j : Int) ∧ (j : Int) < 30) (some ((g2 22 j), g2))))) else (if d (1 + 4 * j) = 2 then (if w = 0 then (xg (g2 35 44 = 21) (xg (0 ≤ (j : Int) ∧ (j : Int) < 30) (some ((g2 21 j), g2)))) else (xg (g2 35 45 = 22) (xg (0 ≤ (j : Int) ∧ (j : Int) < 30) (some ((g2 22 j), g2))))) else (some ((-1), g2)))) = r → f_X12_claimed m [35, x, y, (j : Int), w] g = r := fun r er => by
      rw [e_X12_claimed, e2, xb_some, if_neg (by omega), xg_pos (by omega), in_t (by omega), xb_some, if_neg (by decide), D0, xb_some, D0, xb_some, Int.toNat_natCast j]
      exact er
    have Q : ∀ {j : Nat} {k : Int}, (j, k) ∈ rQL → g2 35 j = k := fun hm => G.1.1.2.2.2.p hm
    by_cases c3 : d (1 + 4 * j) = 1
    · obtain ⟨x1, x2⟩ := r1 (by decide) (Or.inl c3)
      by_cases cw : w = 0
      · refine ⟨g2 21 j, h2, g2, C0 _ ?_, R0 _ ?_, kk⟩
        · rw [if_pos c3, if_pos cw, xg_pos e13, x2]
        · rw [if_pos c3, if_pos cw, xg_pos (Q (j := 44) (k := 21) (by decide)), xg_pos (by omega)]
      · refine ⟨g2 22 j, h2, g2, C0 _ ?_, R0 _ ?_, kk⟩
        · rw [if_pos c3, if_neg cw, xg_pos e13, x1]
        · rw [if_pos c3, if_neg cw, xg_pos (Q (j := 45) (k := 22) (by decide)), xg_pos (by omega)]
    by_cases c4 : d (1 + 4 * j) = 2
    · obtain ⟨x1, x2⟩ := r1 (by decide) (Or.inr c4)
      by_cases cw : w = 0
      · refine ⟨g2 21 j, h2, g2, C0 _ ?_, R0 _ ?_, kk⟩
        · rw [if_neg c3, if_pos c4, if_pos cw, xg_pos e13, x2]
        · rw [if_neg c3, if_pos c4, if_pos cw, xg_pos (Q (j := 44) (k := 21) (by decide)), xg_pos (by omega)]
      · refine ⟨g2 22 j, h2, g2, C0 _ ?_, R0 _ ?_, kk⟩
        · rw [if_neg c3, if_pos c4, if_neg cw, xg_pos e13, x1]
        · rw [if_neg c3, if_pos c4, if_neg cw, xg_pos (Q (j := 45) (k := 22) (by decide)), xg_pos (by omega)]
    · refine ⟨-1, h2, g2, C0 _ ?_, R0 _ ?_, kk⟩
      · rw [if_neg c3, if_neg c4]
      · rw [if_neg c3, if_neg c4]
theorem RR_shares {m n : Nat} {x y k w : Int} {h g : yH} (hn : 300 ≤ n) (hm : 300 ≤ m) (hk : -2147483648 ≤ k ∧ k ≤ 2147483647) (R : RR True h g) (hW : WH g) (hp : cPr h) (h13 : h 1 3 = 130) (hL : lnI h) (hl : h 4 1 ≤ 600) (hq : rQ g) (h4 : ∀ j, j < 12 → 0 ≤ g 4 j ∧ g 4 j ≤ 2) : ∃ v h2 g2, f_X11_shares n [1, x, y, k, w] h = some (v, h2) ∧ f_X12_shares m [35, x, y, k, w] g = some (v, g2) ∧ dyK h g h2 g2 := by
  obtain ⟨wL, gL, eL, kL, zL⟩ := layX (n := n) (m := m) (x := x) (y := y) hn hm R hW hp h13 hL hl hq h4
  have kN : ∃ gN, dyK h g h gN ∧ (¬ (0 ≤ k ∧ k ≤ 29) → f_X12_shares m [35, x, y, k, w] g = some (-2, gN)) ∧ (¬ (0 ≤ w ∧ w ≤ 2) → f_X12_shares m [35, x, y, k, w] g = some (-2, gN)) := by
    by_cases cw : 0 ≤ w ∧ w ≤ 2
    · refine ⟨gL, kL, fun c => ?_, fun c => absurd cw c⟩
      rcases zL with ev | ⟨ev, z⟩
      · rw [e_X12_shares, in_t cw, xb_some, if_neg (by decide), eL, xb_some, if_pos ev]
      · rw [e_X12_shares, in_t cw, xb_some, if_neg (by decide), eL, xb_some, if_neg (by omega), xg_pos (by omega), in_f (by omega), xb_some, if_pos rfl]
    · refine ⟨zup g 35 0 0, dyK.c0 R hL hl hp, fun _ => ?_, fun _ => ?_⟩
      · rw [e_X12_shares, in_f cw, xb_some, if_pos rfl]
      · rw [e_X12_shares, in_f cw, xb_some, if_pos rfl]
  obtain ⟨gN, kN, eN, eW⟩ := kN
  by_cases c0 : k < 0
  · refine ⟨-2, h, gN, ?_, eN (by omega), kN⟩
    rw [e_X11_shares, if_pos c0]
  by_cases c1 : k = 2147483647
  · obtain ⟨h2, e1, a1, a2⟩ := stateN (n := n) (x := x) (y := y) hn R hW hp h13 hq h4
    refine ⟨-2, h2, gN, ?_, eN (by omega), kN.mix hL hl a1 a2⟩
    rw [e_X11_shares, if_neg c0, c1, show yari 0 2147483647 1 = -2147483648 from by decide +kernel, e1, xb_some, if_pos rfl]
  obtain ⟨v, w', h2, g2, e1, e2, e13, kk, hh, e3⟩ := deedD (x := x) (y := y) (k := k) hn hm R hW hp h13 hL hl hq h4 (by omega)
  have ea := add1_e (k := k) (by omega)
  have kM : dyK h g h2 gN := kN.mix hL hl kk.2.1 kk.2.2.1
  rcases e3 with ⟨e4, e5⟩ | ⟨e4, e5, e6⟩ | ⟨e4, e5, e6, e7⟩
  · have eC : f_X11_shares n [1, x, y, k, w] h = some (-2, h2) := by rw [e_X11_shares, if_neg c0, ea, e1, xb_some, if_pos e5]
    by_cases cw : 0 ≤ w ∧ w ≤ 2
    · refine ⟨-2, h2, g2, eC, ?_, kk⟩
      rw [e_X12_shares, in_t cw, xb_some, if_neg (by decide), e2, xb_some, if_pos e4]
    · exact ⟨-2, h2, gN, eC, eW cw, kM⟩
  · have eC : f_X11_shares n [1, x, y, k, w] h = some (-2, h2) := by rw [e_X11_shares, if_neg c0, ea, e1, xb_some, if_pos e5]
    by_cases cw : 0 ≤ w ∧ w ≤ 2
    · refine ⟨-2, h2, g2, eC, ?_, kk⟩
      rw [e_X12_shares, in_t cw, xb_some, if_neg (by decide), e2, xb_some, if_neg (by omega), xg_pos (by omega), in_f (by omega), xb_some, if_pos rfl]
    · exact ⟨-2, h2, gN, eC, eW cw, kM⟩
  · obtain ⟨j, rfl⟩ : ∃ j : Nat, k = (j : Int) := ⟨k.toNat, by omega⟩
    rw [Int.toNat_natCast] at e7
    obtain ⟨e, s, dd, t, d, u, G, k1, k30, ⟨q1, q2, q3⟩, r1, r2⟩ := e7
    have e1e : ((e : Int) + 1).toNat = e + 1 := by omega
    have D0 := deedOf_e (m := m) (kk := j) (w := 0) G k30 (by decide)
    rw [show ((0 : Nat) : Int) = 0 from rfl, Nat.add_zero] at D0
    have C0 : ∀ r : yO, (if d (1 + 4 * j) = 4 then (if w = 0 then (xg (h2 1 3 = 130) (some ((h2 130 10), h2))) else (if w = 1 then (xg (h2 1 3 = 130) (some ((h2 130 11), h2))) else (if w = 2 then (xg (h2 1 3 = 130) (some ((h2 130 12), h2))) else (some ((-2), h2))))) else (some ((-2), h2))) = r → f_X11_shares n [1, x, y, (j : Int), w] h = r := fun r er => by
      rw [e_X11_shares, if_neg c0, ea, e1, xb_some, if_neg (by omega), xg_pos e13, q1, xg_pos (by omega), Int.toNat_natCast e, xg_pos q2, xg_pos (by omega), e1e, Int.toNat_natCast j, q3]
      exact er
    by_cases cw : 0 ≤ w ∧ w ≤ 2
    rotate_left
    · refine ⟨-2, h2, gN, C0 _ ?_, eW cw, kM⟩
      by_cases c4 : d (1 + 4 * j) = 4
      · rw [if_pos c4, if_neg (by omega), if_neg (by omega), if_neg (by omega)]
      · rw [if_neg c4]
    have R0 : ∀ r : yO, (if d (1 + 4 * j) = 4 then (if w = 0 then (xg (g2 35 46 = 23) (xg (0 ≤ (j : Int) ∧ (j : Int) < 30) (some ((g2 23 j), g2)))) else (if w = 1 then (xg (g2 35 47 = 24) (xg (0 ≤ (j : Int) ∧ (j : Int) < 30) (some ((g2 24 j), g2)))) else (xg (g2 35 48 = 25) (xg (0 ≤ (j : Int) ∧ (j : Int) < 30) (some ((g2 25 j), g2)))))) else (some ((-2), g2))) = r → f_X12_shares m [35, x, y, (j : Int), w] g = r := fun r er => by
      rw [e_X12_shares, in_t cw, xb_some, if_neg (by decide), e2, xb_some, if_neg (by omega), xg_pos (by omega), in_t (by omega), xb_some, if_neg (by decide), D0, xb_some, Int.toNat_natCast j]
      exact er
    have Q : ∀ {j : Nat} {k : Int}, (j, k) ∈ rQL → g2 35 j = k := fun hm => G.1.1.2.2.2.p hm
    by_cases c4 : d (1 + 4 * j) = 4
    · obtain ⟨x1, x2, x3⟩ := r2 c4
      by_cases w0 : w = 0
      · refine ⟨g2 23 j, h2, g2, C0 _ ?_, R0 _ ?_, kk⟩
        · rw [if_pos c4, if_pos w0, xg_pos e13, x1]
        · rw [if_pos c4, if_pos w0, xg_pos (Q (j := 46) (k := 23) (by decide)), xg_pos (by omega)]
      by_cases w1 : w = 1
      · refine ⟨g2 24 j, h2, g2, C0 _ ?_, R0 _ ?_, kk⟩
        · rw [if_pos c4, if_neg w0, if_pos w1, xg_pos e13, x2]
        · rw [if_pos c4, if_neg w0, if_pos w1, xg_pos (Q (j := 47) (k := 24) (by decide)), xg_pos (by omega)]
      · refine ⟨g2 25 j, h2, g2, C0 _ ?_, R0 _ ?_, kk⟩
        · rw [if_pos c4, if_neg w0, if_neg w1, if_pos (by omega), xg_pos e13, x3]
        · rw [if_pos c4, if_neg w0, if_neg w1, xg_pos (Q (j := 48) (k := 25) (by decide)), xg_pos (by omega)]
    · refine ⟨-2, h2, g2, C0 _ ?_, R0 _ ?_, kk⟩
      · rw [if_neg c4]
      · rw [if_neg c4]
end
section
/-! sum: luck, fish, coasts, boats -/
def rbB (f : Nat → Int) : Nat → Int
  | 0 => -1
  | k + 1 => if rbB f k = -1 then (k : Int) else if f (rbB f k).toNat < f k then (k : Int) else rbB f k
theorem rbB_c {f : Nat → Int} : ∀ k, 1 ≤ k → ∃ j : Nat, j < k ∧ rbB f k = (j : Int) ∧ ∀ i, i < k → f i ≤ f j := by
  intro k
  induction k with
  | zero => intro h; omega
  | succ k ih =>
    intro _
    have st : rbB f (k + 1) = if rbB f k = -1 then (k : Int) else if f (rbB f k).toNat < f k then (k : Int) else rbB f k := rfl
    rw [st]
    by_cases c0 : k = 0
    · subst c0
      refine ⟨0, by omega, ?_, fun i hi => by rw [show i = 0 by omega]; exact Int.le_refl _⟩
      exact if_pos rfl
    · obtain ⟨j, j1, j2, j3⟩ := ih (by omega)
      rw [j2, if_neg (by omega), Int.toNat_natCast]
      by_cases c : f j < f k
      · rw [if_pos c]
        refine ⟨k, by omega, rfl, fun i hi => ?_⟩
        by_cases q : i = k
        · rw [q]; exact Int.le_refl _
        · have := j3 i (by omega); omega
      · rw [if_neg c]
        refine ⟨j, by omega, rfl, fun i hi => ?_⟩
        by_cases q : i = k
        · rw [q]; omega
        · exact j3 i (by omega)
def mnB (f : Nat → Int) (L : Int) : Nat → Int
  | 0 => L
  | k + 1 => min (mnB f L k) (f k)
def mxB (f : Nat → Int) (L : Int) : Nat → Int
  | 0 => L
  | k + 1 => max (mxB f L k) (f k)
theorem mnB_c {f : Nat → Int} {L : Int} : ∀ k, mnB f L k ≤ L ∧ (∀ i, i < k → mnB f L k ≤ f i) ∧ (mnB f L k = L ∨ ∃ i, i < k ∧ mnB f L k = f i) := by
  intro k
  induction k with
  | zero => exact ⟨Int.le_refl _, fun i hi => by omega, Or.inl rfl⟩
  | succ k ih =>
    obtain ⟨h1, h2, h3⟩ := ih
    have st : mnB f L (k + 1) = min (mnB f L k) (f k) := rfl
    rw [st]
    refine ⟨by omega, fun i hi => ?_, ?_⟩
    · by_cases q : i = k
      · rw [q]; omega
      · have := h2 i (by omega); omega
    · by_cases c : mnB f L k ≤ f k
      · rw [Int.min_eq_left c]
        rcases h3 with h3 | ⟨i, i1, i2⟩
        · exact Or.inl h3
        · exact Or.inr ⟨i, by omega, i2⟩
      · rw [Int.min_eq_right (by omega)]
        exact Or.inr ⟨k, by omega, rfl⟩
theorem mxB_c {f : Nat → Int} {L : Int} : ∀ k, L ≤ mxB f L k ∧ (∀ i, i < k → f i ≤ mxB f L k) ∧ (mxB f L k = L ∨ ∃ i, i < k ∧ mxB f L k = f i) := by
  intro k
  induction k with
  | zero => exact ⟨Int.le_refl _, fun i hi => by omega, Or.inl rfl⟩
  | succ k ih =>
    obtain ⟨h1, h2, h3⟩ := ih
    have st : mxB f L (k + 1) = max (mxB f L k) (f k) := rfl
    rw [st]
    refine ⟨by omega, fun i hi => ?_, ?_⟩
    · by_cases q : i = k
      · rw [q]; omega
      · have := h2 i (by omega); omega
    · by_cases c : f k ≤ mxB f L k
      · rw [Int.max_eq_left c]
        rcases h3 with h3 | ⟨i, i1, i2⟩
        · exact Or.inl h3
        · exact Or.inr ⟨i, by omega, i2⟩
      · rw [Int.max_eq_right (by omega)]
        exact Or.inr ⟨k, by omega, rfl⟩
/-- what the boats have, for the sums -/
def btF (B : Nat) (b : Nat) (t : Nat → Int) (h g : yH) : Prop := B ≤ 6 ∧ t 6 = (B : Int) ∧ (h 130 0 = (b : Int) ∧ h b 10 = (B : Int)) ∧ h 130 4 = 139 ∧ rQ g ∧ g 35 28 = (B : Int) ∧ ∀ i, i < B → h 139 i = g 17 i ∧ 0 ≤ g 17 i ∧ g 17 i ≤ 121770
theorem dR.btF {b e s dd : Nat} {t d : Nat → Int} {K : Int} {S q c : Nat} {p : Nat → Int} {h g : yH} (H : dR b e s dd t d K S q c p h g) (hT : dT t d) (hc : c ≤ 121770) : btF (t 6).toNat b t h g := by
  have w6 := hT.1.wd.2.2.2.2
  refine ⟨by omega, by omega, ⟨H.1.2.2.1, by rw [H.1.2.2.2.2.1.2.2.2.2.2.2.1]; omega⟩, H.1.2.1.2.2.1, H.2.1.1.1.2.2.2, ?_, fun i hi => ?_⟩
  · rw [H.2.1.1.2.2.2.2.2.2.1, bU_n (j := 6) (by omega)]
    omega
  · obtain ⟨-, ⟨a3, a4, a5⟩, -⟩ := H.2.2.2.2.2 i (by omega)
    exact ⟨a3, a4, by omega⟩
theorem rbC_l {B b : Nat} {t : Nat → Int} {h g : yH} (H : btF B b t h g) : ∀ (mm k n : Nat), mm + k = B → mm < n → xl_X5_richestBoat n 4 [130, rbB (g 17) k, (k : Int)] h = some (rbB (g 17) B, h) := by
  obtain ⟨B6, -, ⟨h0, h10⟩, h4, -, -, hb⟩ := H
  intro mm
  induction mm with
  | zero =>
    intro k n e1 e2
    obtain ⟨n, rfl⟩ : ∃ n', n = n' + 1 := ⟨n - 1, by omega⟩
    rw [e_X5_richestBoat_4, h0, xg_pos (by omega), Int.toNat_natCast, h10, if_neg (by omega), show k = B by omega]
  | succ mm ih =>
    intro k n e1 e2
    obtain ⟨n, rfl⟩ : ∃ n', n = n' + 1 := ⟨n - 1, by omega⟩
    have nx := ih (k + 1) n (by omega) (by omega)
    have st : rbB (g 17) (k + 1) = if rbB (g 17) k = -1 then (k : Int) else if g 17 (rbB (g 17) k).toNat < g 17 k then (k : Int) else rbB (g 17) k := rfl
    rw [st] at nx
    rw [e_X5_richestBoat_4, h0, xg_pos (by omega), Int.toNat_natCast b, h10, if_pos (by omega)]
    by_cases c0 : rbB (g 17) k = -1
    · rw [if_pos c0] at nx
      rw [if_pos c0, xg_pos (by omega), show (k : Int) + 1 = ((k + 1 : Nat) : Int) by omega]
      exact nx
    · have k1 : 1 ≤ k := by
        by_cases q : k = 0
        · subst q; exact absurd rfl c0
        · omega
      obtain ⟨j, j1, j2, j3⟩ := rbB_c (f := g 17) k k1
      rw [if_neg c0, j2, Int.toNat_natCast j] at nx
      rw [if_neg c0, j2, xg_pos h4, xg_pos (by omega), xg_pos h4, xg_pos (by omega), Int.toNat_natCast j, Int.toNat_natCast k, (hb j (by omega)).1, (hb k (by omega)).1]
      by_cases c : g 17 j < g 17 k
      · rw [if_pos c] at nx
        rw [if_pos c, xg_pos (by omega), show (k : Int) + 1 = ((k + 1 : Nat) : Int) by omega]
        exact nx
      · rw [if_neg c] at nx
        rw [if_neg c, xg_pos (by omega), show (k : Int) + 1 = ((k + 1 : Nat) : Int) by omega]
        exact nx
theorem rbR_l {B b : Nat} {t : Nat → Int} {h g : yH} (H : btF B b t h g) : ∀ (mm k n : Nat), mm + k = B → mm < n → xl_X12_richest n 4 [35, rbB (g 17) k, (k : Int)] g = some (rbB (g 17) B, g) := by
  obtain ⟨B6, -, -, -, hq, h28, hb⟩ := H
  intro mm
  induction mm with
  | zero =>
    intro k n e1 e2
    obtain ⟨n, rfl⟩ : ∃ n', n = n' + 1 := ⟨n - 1, by omega⟩
    rw [e_X12_richest_4, h28, if_neg (by omega), show k = B by omega]
  | succ mm ih =>
    intro k n e1 e2
    obtain ⟨n, rfl⟩ : ∃ n', n = n' + 1 := ⟨n - 1, by omega⟩
    have nx := ih (k + 1) n (by omega) (by omega)
    have st : rbB (g 17) (k + 1) = if rbB (g 17) k = -1 then (k : Int) else if g 17 (rbB (g 17) k).toNat < g 17 k then (k : Int) else rbB (g 17) k := rfl
    rw [st] at nx
    rw [e_X12_richest_4, h28, if_pos (by omega)]
    by_cases c0 : rbB (g 17) k = -1
    · rw [if_pos c0] at nx
      rw [if_pos c0, xg_pos (by omega), show (k : Int) + 1 = ((k + 1 : Nat) : Int) by omega]
      exact nx
    · have k1 : 1 ≤ k := by
        by_cases q : k = 0
        · subst q; exact absurd rfl c0
        · omega
      obtain ⟨j, j1, j2, j3⟩ := rbB_c (f := g 17) k k1
      rw [if_neg c0, j2, Int.toNat_natCast j] at nx
      rw [if_neg c0, j2, xg_pos (hq.p (j := 42) (k := 17) (by decide)), xg_pos (by omega), xg_pos (hq.p (j := 42) (k := 17) (by decide)), xg_pos (by omega), Int.toNat_natCast j, Int.toNat_natCast k]
      by_cases c : g 17 j < g 17 k
      · rw [if_pos c] at nx
        rw [if_pos c, xg_pos (by omega), show (k : Int) + 1 = ((k + 1 : Nat) : Int) by omega]
        exact nx
      · rw [if_neg c] at nx
        rw [if_neg c, xg_pos (by omega), show (k : Int) + 1 = ((k + 1 : Nat) : Int) by omega]
        exact nx
theorem lkC_l {B b j : Nat} {t : Nat → Int} {h g : yH} (H : btF B b t h g) (hj : j < B) {L : Int} (hL : 0 ≤ L ∧ L ≤ 121770) : ∀ (mm k n : Nat), mm + k = B → mm < n → xl_X5_luck n 21 [130, (j : Int), mnB (g 17) L k, (k : Int)] h = some (g 17 j - mnB (g 17) L B, h) := by
  obtain ⟨B6, -, ⟨h0, h10⟩, h4, -, -, hb⟩ := H
  have mb : ∀ k, k ≤ B → 0 ≤ mnB (g 17) L k ∧ mnB (g 17) L k ≤ 121770 := fun k hk => by
    obtain ⟨a1, a2, a3⟩ := mnB_c (f := g 17) (L := L) k
    rcases a3 with a3 | ⟨i, i1, i2⟩
    · rw [a3]; exact hL
    · rw [i2]; exact (hb i (by omega)).2
  intro mm
  induction mm with
  | zero =>
    intro k n e1 e2
    obtain ⟨n, rfl⟩ : ∃ n', n = n' + 1 := ⟨n - 1, by omega⟩
    have m1 := mb k (by omega)
    have m2 := (hb j hj).2
    rw [e_X5_luck_21, h0, xg_pos (by omega), Int.toNat_natCast, h10, if_neg (by omega), xg_pos h4, xg_pos (by omega), Int.toNat_natCast, (hb j hj).1, xg_pos (by omega), show k = B by omega]
  | succ mm ih =>
    intro k n e1 e2
    obtain ⟨n, rfl⟩ : ∃ n', n = n' + 1 := ⟨n - 1, by omega⟩
    rw [e_X5_luck_21, h0, xg_pos (by omega), Int.toNat_natCast b, h10, if_pos (by omega), xg_pos h4, xg_pos (by omega), Int.toNat_natCast k, (hb k (by omega)).1, xg_pos (by omega), show (k : Int) + 1 = ((k + 1 : Nat) : Int) by omega]
    exact ih (k + 1) n (by omega) (by omega)
theorem less_e {n : Nat} {x y : Int} {g : yH} : f_X12_lesser n [x, y] g = some (min x y, g) := by
  rw [e_X12_lesser]
  by_cases c : x < y
  · rw [if_pos c, Int.min_eq_left (by omega)]
  · rw [if_neg c, Int.min_eq_right (by omega)]
theorem lkR_l {B b : Nat} {t : Nat → Int} {h g : yH} (H : btF B b t h g) {L M : Int} (hL : 0 ≤ L ∧ L ≤ 121770) (hM : 0 ≤ M ∧ M ≤ 121770) : ∀ (mm k n : Nat), mm + k = B → mm < n → xl_X12_luck n 22 [35, mnB (g 17) L k, mxB (g 17) M k, (k : Int)] g = some (mxB (g 17) M B - mnB (g 17) L B, g) := by
  obtain ⟨B6, -, -, -, hq, h28, hb⟩ := H
  have mb : ∀ k, k ≤ B → 0 ≤ mnB (g 17) L k ∧ mnB (g 17) L k ≤ 121770 := fun k hk => by
    obtain ⟨a1, a2, a3⟩ := mnB_c (f := g 17) (L := L) k
    rcases a3 with a3 | ⟨i, i1, i2⟩
    · rw [a3]; exact hL
    · rw [i2]; exact (hb i (by omega)).2
  have xb : ∀ k, k ≤ B → 0 ≤ mxB (g 17) M k ∧ mxB (g 17) M k ≤ 121770 := fun k hk => by
    obtain ⟨a1, a2, a3⟩ := mxB_c (f := g 17) (L := M) k
    rcases a3 with a3 | ⟨i, i1, i2⟩
    · rw [a3]; exact hM
    · rw [i2]; exact (hb i (by omega)).2
  intro mm
  induction mm with
  | zero =>
    intro k n e1 e2
    obtain ⟨n, rfl⟩ : ∃ n', n = n' + 1 := ⟨n - 1, by omega⟩
    have m1 := mb k (by omega)
    have m2 := xb k (by omega)
    rw [e_X12_luck_22, h28, if_neg (by omega), xg_pos (by omega), show k = B by omega]
  | succ mm ih =>
    intro k n e1 e2
    obtain ⟨n, rfl⟩ : ∃ n', n = n' + 1 := ⟨n - 1, by omega⟩
    rw [e_X12_luck_22, h28, if_pos (by omega), xg_pos (hq.p (j := 42) (k := 17) (by decide)), xg_pos (by omega), less_e, xb_some, xg_pos (hq.p (j := 42) (k := 17) (by decide)), xg_pos (by omega), gr_e, xb_some, xg_pos (by omega), Int.toNat_natCast k, show (k : Int) + 1 = ((k + 1 : Nat) : Int) by omega]
    exact ih (k + 1) n (by omega) (by omega)
theorem luck2 {B b n m : Nat} {t : Nat → Int} {h g : yH} (H : btF B b t h g) (hn : 10 ≤ n) (hm : 10 ≤ m) : ∃ v, f_X5_luck n [130] h = some (v, h) ∧ f_X12_luck m [35] g = some (v, g) := by
  have rc := rbC_l H B 0 n (by omega) (by have := H.1; omega)
  rw [show ((0 : Nat) : Int) = 0 from rfl, show rbB (g 17) 0 = -1 from rfl] at rc
  obtain ⟨B6, -, ⟨h0, h10⟩, h4, hq, h28, hb⟩ := id H
  by_cases cB : B = 0
  · subst cB
    have lr := lkR_l H (L := 0) (M := 0) ⟨by decide, by decide⟩ ⟨by decide, by decide⟩ 0 0 m rfl (by omega)
    refine ⟨0, ?_, ?_⟩
    · rw [e_X5_luck, e_X5_richestBoat, rc, xb_some, show rbB (g 17) 0 = -1 from rfl, if_pos rfl]
    · rw [e_X12_luck, h28, if_pos (show ((0 : Nat) : Int) = 0 from rfl)]
      exact lr
  · obtain ⟨j, j1, j2, j3⟩ := rbB_c (f := g 17) B (by omega)
    have b0 := (hb 0 (by omega)).2
    have bj := (hb j j1).2
    have lc := lkC_l H j1 (L := g 17 j) bj B 0 n (by omega) (by omega)
    have lr := lkR_l H (L := g 17 0) (M := g 17 0) b0 b0 B 0 m (by omega) (by omega)
    rw [show ((0 : Nat) : Int) = 0 from rfl] at lc lr
    obtain ⟨a1, a2, a3⟩ := mnB_c (f := g 17) (L := g 17 j) B
    obtain ⟨b1, b2, b3⟩ := mnB_c (f := g 17) (L := g 17 0) B
    obtain ⟨x1, x2, x3⟩ := mxB_c (f := g 17) (L := g 17 0) B
    have e1 : mnB (g 17) (g 17 j) B = mnB (g 17) (g 17 0) B := by
      have l1 : mnB (g 17) (g 17 j) B ≤ mnB (g 17) (g 17 0) B := by
        rcases b3 with b3 | ⟨i, i1, i2⟩
        · rw [b3]; exact a2 0 (by omega)
        · rw [i2]; exact a2 i i1
      have l2 : mnB (g 17) (g 17 0) B ≤ mnB (g 17) (g 17 j) B := by
        rcases a3 with a3 | ⟨i, i1, i2⟩
        · rw [a3]; exact b2 j j1
        · rw [i2]; exact b2 i i1
      omega
    have e2 : mxB (g 17) (g 17 0) B = g 17 j := by
      have l1 := x2 j j1
      have l2 : mxB (g 17) (g 17 0) B ≤ g 17 j := by
        rcases x3 with x3 | ⟨i, i1, i2⟩
        · rw [x3]; exact j3 0 (by omega)
        · rw [i2]; exact j3 i i1
      omega
    refine ⟨g 17 j - mnB (g 17) (g 17 j) B, ?_, ?_⟩
    · rw [e_X5_luck, e_X5_richestBoat, rc, xb_some, j2, if_neg (by omega), xg_pos h4, xg_pos (by omega), Int.toNat_natCast, (hb j j1).1]
      exact lc
    · rw [e_X12_luck, h28, if_neg (by omega), xg_pos (hq.p (j := 42) (k := 17) (by decide))]
      rw [e2, ← e1] at lr
      exact lr
/-! all fish there -/
def sfB (f : Nat → Int) (S : Nat) : Nat → Int
  | 0 => 0
  | k + 1 => sfB f S k + (if k < S ∧ 0 < f k then f k else 0)
theorem sfB_b {f : Nat → Int} {S : Nat} (hf : ∀ i, i < S → 0 ≤ f i ∧ f i ≤ 99) : ∀ k, 0 ≤ sfB f S k ∧ sfB f S k ≤ 99 * (k : Int) := by
  intro k
  induction k with
  | zero => exact ⟨Int.le_refl _, show (0 : Int) ≤ 99 * ((0 : Nat) : Int) by decide⟩
  | succ k ih =>
    show 0 ≤ sfB f S k + (if k < S ∧ 0 < f k then f k else 0) ∧ sfB f S k + (if k < S ∧ 0 < f k then f k else 0) ≤ 99 * ((k + 1 : Nat) : Int)
    by_cases c : k < S ∧ 0 < f k
    · rw [if_pos c]
      have := hf k c.1
      omega
    · rw [if_neg c]
      omega
theorem sfB_z {f : Nat → Int} {S : Nat} : ∀ m, sfB f S (S + m) = sfB f S S := by
  intro m
  induction m with
  | zero => rfl
  | succ m ih =>
    show sfB f S (S + m) + (if S + m < S ∧ 0 < f (S + m) then f (S + m) else 0) = sfB f S S
    rw [if_neg (by omega), ih, Int.add_zero]
theorem fish2 {b e s dd n m : Nat} {t d : Nat → Int} {K : Int} {S q c : Nat} {p : Nat → Int} {h g : yH} (H : dR b e s dd t d K S q c p h g) (hn : 10 ≤ n) (hm : 10 ≤ m) : ∃ v, f_X7_fishThere n [131] h = some (v, h) ∧ f_X12_fishOf m [35, 63] g = some (v, g) := by
  obtain ⟨S6, k2, k3, k4, k5⟩ := id H.2.2.2.1
  have hf : ∀ i, i < S → 0 ≤ g 14 i ∧ g 14 i ≤ 99 := fun i hi => ((k5 i (by omega)).2.1 hi).1.2.1
  have p7 : h 131 1 = 133 := H.1.2.1.2.2.2.2.2.2.1
  have lc : ∀ (mm k n : Nat), mm + k = 6 → mm < n → xl_X7_fishThere n 4 [131, sfB (g 14) S k, (k : Int)] h = some (sfB (g 14) S 6, h) := by
    intro mm
    induction mm with
    | zero =>
      intro k n e1 e2
      obtain ⟨n, rfl⟩ : ∃ n', n = n' + 1 := ⟨n - 1, by omega⟩
      rw [e_X7_fishThere_4, if_neg (by omega), show k = 6 by omega]
    | succ mm ih =>
      intro k n e1 e2
      obtain ⟨n, rfl⟩ : ∃ n', n = n' + 1 := ⟨n - 1, by omega⟩
      have nx := ih (k + 1) n (by omega) (by omega)
      have st : sfB (g 14) S (k + 1) = sfB (g 14) S k + (if k < S ∧ 0 < g 14 k then g 14 k else 0) := rfl
      rw [st] at nx
      obtain ⟨t1, -⟩ := there2 (n := n) (m := 0) H (show k < 6 by omega)
      have bb := sfB_b (f := g 14) (S := S) hf k
      rw [e_X7_fishThere_4, if_pos (by omega), t1, xb_some]
      by_cases cT : k < S ∧ 0 < g 14 k
      · rw [if_pos cT] at nx
        have e2' := (((k5 k (by omega)).2.1 cT.1).2 cT.2).2.1
        have := hf k cT.1
        rw [if_pos cT, if_neg (by decide), xg_pos p7, xg_pos (by omega), Int.toNat_natCast, e2', xg_pos (by omega), xg_pos (by omega), show (k : Int) + 1 = ((k + 1 : Nat) : Int) by omega]
        exact nx
      · rw [if_neg cT] at nx
        rw [if_neg cT, if_pos rfl, xg_pos (by omega), xg_pos (by omega), show (k : Int) + 1 = ((k + 1 : Nat) : Int) by omega]
        exact nx
  have i63 : ∀ k : Fin 6, (63 : Int) / 2 ^ k.val % 2 = 1 := by decide
  have lr : ∀ (mm k n : Nat), mm + k = S → mm < n → xl_X12_fishOf n 4 [35, 63, sfB (g 14) S k, (k : Int)] g = some (sfB (g 14) S S, g) := by
    intro mm
    induction mm with
    | zero =>
      intro k n e1 e2
      obtain ⟨n, rfl⟩ : ∃ n', n = n' + 1 := ⟨n - 1, by omega⟩
      rw [e_X12_fishOf_4, k3, if_neg (by omega), show k = S by omega]
    | succ mm ih =>
      intro k n e1 e2
      obtain ⟨n, rfl⟩ : ∃ n', n = n' + 1 := ⟨n - 1, by omega⟩
      have nx := ih (k + 1) n (by omega) (by omega)
      have st : sfB (g 14) S (k + 1) = sfB (g 14) S k + (if k < S ∧ 0 < g 14 k then g 14 k else 0) := rfl
      have bb := sfB_b (f := g 14) (S := S) hf k
      have hk := hf k (by omega)
      have e0 : (if k < S ∧ 0 < g 14 k then g 14 k else 0) = g 14 k := by
        by_cases c : k < S ∧ 0 < g 14 k
        · rw [if_pos c]
        · rw [if_neg c]; omega
      rw [st, e0] at nx
      have i6 := i63 ⟨k, by omega⟩
      simp only at i6
      rw [e_X12_fishOf_4, k3, if_pos (by omega), isIn_e (by decide) (by omega), xb_some, i6, if_neg (by decide), xg_pos (H.Q (j := 37) (k := 14) (by decide)), xg_pos (by omega), Int.toNat_natCast, xg_pos (by omega), xg_pos (by omega), show (k : Int) + 1 = ((k + 1 : Nat) : Int) by omega]
      exact nx
  have c1 := lc 6 0 n rfl (by omega)
  have c2 := lr S 0 m (by omega) (by omega)
  rw [show ((0 : Nat) : Int) = 0 from rfl, show sfB (g 14) S 0 = 0 from rfl] at c1 c2
  have z := sfB_z (f := g 14) (S := S) (6 - S)
  rw [show S + (6 - S) = 6 by omega] at z
  refine ⟨sfB (g 14) S S, ?_, ?_⟩
  · rw [e_X7_fishThere, c1, z]
  · rw [e_X12_fishOf, c2]
end
section
/-! the coasts -/
def csB (f : Nat → Int) (t : Nat → Int) (c : Nat) : Nat → Int
  | 0 => 0
  | k + 1 => csB f t c k + (if t (33 + 3 * k) = (c : Int) then f k else 0)
theorem csB_b {f t : Nat → Int} {c B : Nat} (hf : ∀ i, i < B → 0 ≤ f i ∧ f i ≤ 121770) : ∀ k, k ≤ B → 0 ≤ csB f t c k ∧ csB f t c k ≤ 121770 * (k : Int) := by
  intro k
  induction k with
  | zero => intro _; exact ⟨Int.le_refl _, show (0 : Int) ≤ 121770 * ((0 : Nat) : Int) by decide⟩
  | succ k ih =>
    intro hk
    have i1 := ih (by omega)
    have h1 := hf k (by omega)
    show 0 ≤ csB f t c k + (if t (33 + 3 * k) = (c : Int) then f k else 0) ∧ csB f t c k + (if t (33 + 3 * k) = (c : Int) then f k else 0) ≤ 121770 * ((k + 1 : Nat) : Int)
    by_cases q : t (33 + 3 * k) = (c : Int)
    · rw [if_pos q]; omega
    · rw [if_neg q]; omega
def bs1 (f : Nat → Int) : Int := if f 0 < f 1 then 1 else 0
def bs2 (f : Nat → Int) : Int := if f (bs1 f).toNat < f 2 then 2 else bs1 f
theorem fill3_e {n : Nat} {h : yH} (hn : 4 ≤ n) : f_J7_fill_53178_f n [141, 0] h = some (0, zup (zup (zup h 141 0 0) 141 1 0) 141 2 0) := by
  obtain ⟨n, rfl⟩ : ∃ n', n = n' + 4 := ⟨n - 4, by omega⟩
  rw [e_J7_fill_53178_f, e_J7_fill_53178_f_5, if_pos (by decide), xg_pos (by decide), xh_e, xg_pos (by decide), show (0 : Int) + 1 = 1 from rfl, e_J7_fill_53178_f_5, if_pos (by decide), xg_pos (by decide), xh_e, xg_pos (by decide), show (1 : Int) + 1 = 2 from rfl, e_J7_fill_53178_f_5, if_pos (by decide), xg_pos (by decide), xh_e, xg_pos (by decide), show (2 : Int) + 1 = 3 from rfl, e_J7_fill_53178_f_5, if_neg (by decide)]
  rfl
theorem coC_l {b e s dd : Nat} {t d : Nat → Int} {K : Int} {S q c : Nat} {p : Nat → Int} {h g : yH} {B : Nat} (H : dR b e s dd t d K S q c p h g) (hT : dT t d) (F : btF B b t h g) : ∀ (mm k n : Nat) (h1 : yH), mm + k = B → mm < n → (∀ a j, ¬ (a = 141) → h1 a j = h a j) → (∀ c, c < 3 → h1 141 c = csB (g 17) t c k) →
    ∃ h2 n2, n2 + mm + 1 = n ∧ xl_X5_richestCoast n 10 [130, (k : Int)] h1 = xl_X5_richestCoast n2 54 [130, 0, 1] h2 ∧ (∀ a j, ¬ (a = 141) → h2 a j = h a j) ∧ ∀ c, c < 3 → h2 141 c = csB (g 17) t c B := by
  obtain ⟨B6, t6, ⟨h0, h10⟩, h4, hq, h28, hb⟩ := id F
  have p15 : h 130 15 = 141 := H.1.2.1.2.2.2.2.1
  have hb30 := H.1.1
  have p13 : h b 13 = (b : Int) + 7 := H.1.2.2.2.2.2.1.2.2.2.2.2.2
  intro mm
  induction mm with
  | zero =>
    intro k n h1 e1 e2 fr hc
    obtain ⟨n, rfl⟩ : ∃ n', n = n' + 1 := ⟨n - 1, by omega⟩
    refine ⟨h1, n, by omega, ?_, fr, ?_⟩
    · rw [e_X5_richestCoast_10, fr 130 0 (by omega), h0, xg_pos (by omega), Int.toNat_natCast, fr b 10 (by omega), h10, if_neg (by omega)]
    · rw [show B = k by omega]
      exact hc
  | succ mm ih =>
    intro k n h1 e1 e2 fr hc
    obtain ⟨n, rfl⟩ : ∃ n', n = n' + 1 := ⟨n - 1, by omega⟩
    have wk := (hT.1.bt (b := k) (by omega)).2.2
    have h7 : h (b + 7) k = t (33 + 3 * k) := (H.1.2.2.2.2.1.2.2.2.2.2.2.2.2.2.2 k (by omega)).2.2
    obtain ⟨w, ew⟩ : ∃ w : Nat, t (33 + 3 * k) = (w : Int) := ⟨(t (33 + 3 * k)).toNat, by omega⟩
    have e7 : ((b : Int) + 7).toNat = b + 7 := by omega
    have cb := csB_b (f := g 17) (t := t) (c := w) (B := B) (fun i hi => (hb i hi).2) k (by omega)
    have hk := (hb k (by omega))
    obtain ⟨h2, n2, f1, f2, f3, f4⟩ := ih (k + 1) n (zup h1 141 w (csB (g 17) t w k + g 17 k)) (by omega) (by omega) (fun a j q => by rw [zup_ne (by omega)]; exact fr a j q) (fun c hc3 => by
      show zup h1 141 w (csB (g 17) t w k + g 17 k) 141 c = csB (g 17) t c k + (if t (33 + 3 * k) = (c : Int) then g 17 k else 0)
      by_cases q : c = w
      · rw [q, zup_at, if_pos ew]
      · rw [zup_ne (by omega), if_neg (by rw [ew]; omega), hc c hc3, Int.add_zero])
    refine ⟨h2, n2, by omega, ?_, f3, f4⟩
    rw [e_X5_richestCoast_10, fr 130 0 (by omega), h0, xg_pos (by omega), Int.toNat_natCast b, fr b 10 (by omega), h10, if_pos (by omega), fr 130 15 (by omega), xg_pos p15, xg_pos (by omega), fr b 13 (by omega), xg_pos p13, xg_pos (by omega), e7, Int.toNat_natCast k, fr (b + 7) k (by omega), h7, ew, xg_pos (by omega), fr 130 4 (by omega), xg_pos h4, xg_pos (by omega), Int.toNat_natCast w, fr 139 k (by omega), hk.1, hc w (by omega), xg_pos (by omega), xg_pos (by omega), xg_pos (by omega), show (k : Int) + 1 = ((k + 1 : Nat) : Int) by omega]
    exact f2
theorem coR_l {b e s dd : Nat} {t d : Nat → Int} {K : Int} {S q c : Nat} {p : Nat → Int} {h g : yH} {B w : Nat} {be mo : Int} (H : dR b e s dd t d K S q c p h g) (F : btF B b t h g) : ∀ (mm k n : Nat), mm + k = B → xl_X12_richestCoast (n + mm + 1) 17 [35, be, mo, (w : Int), csB (g 17) t w k, (k : Int)] g = (if mo < csB (g 17) t w B then (xb (f_X12_greater n [mo, csB (g 17) t w B] g) (fun v2 h2 => xg (-2147483648 ≤ (w : Int) + 1 ∧ (w : Int) + 1 ≤ 2147483647) (xl_X12_richestCoast n 6 [35, (w : Int), v2, ((w : Int) + 1)] h2))) else (xb (f_X12_greater n [mo, csB (g 17) t w B] g) (fun v1 h1 => xg (-2147483648 ≤ (w : Int) + 1 ∧ (w : Int) + 1 ≤ 2147483647) (xl_X12_richestCoast n 6 [35, be, v1, ((w : Int) + 1)] h1)))) := by
  obtain ⟨B6, t6, ⟨h0, h10⟩, h4, hq, h28, hb⟩ := id F
  intro mm
  induction mm with
  | zero =>
    intro k n e1
    rw [e_X12_richestCoast_17, h28, if_neg (by omega), show k = B by omega]
  | succ mm ih =>
    intro k n e1
    have nx := ih (k + 1) n (by omega)
    have st : csB (g 17) t w (k + 1) = csB (g 17) t w k + (if t (33 + 3 * k) = (w : Int) then g 17 k else 0) := rfl
    have cb := csB_b (f := g 17) (t := t) (c := w) (B := B) (fun i hi => (hb i hi).2) k (by omega)
    have hk := (hb k (by omega)).2
    rw [st] at nx
    rw [show n + (mm + 1) + 1 = (n + mm + 1) + 1 by omega, e_X12_richestCoast_17, h28, if_pos (by omega), xg_pos (by omega), xg_pos (by omega), xg_pos (by omega), of_e H.2.1.1.1 (k := 33 + 3 * k) (by omega) (by omega), xb_some]
    by_cases q : t (33 + 3 * k) = (w : Int)
    · rw [if_pos q] at nx
      rw [if_pos q, xg_pos (hq.p (j := 42) (k := 17) (by decide)), xg_pos (by omega), Int.toNat_natCast k, xg_pos (by omega), xg_pos (by omega), show (k : Int) + 1 = ((k + 1 : Nat) : Int) by omega]
      exact nx
    · rw [if_neg q] at nx
      rw [if_neg q, xg_pos (by omega), xg_pos (by omega), show (k : Int) + 1 = ((k + 1 : Nat) : Int) by omega]
      exact nx
theorem coast2 {b e s dd n m : Nat} {t d : Nat → Int} {K : Int} {S q c : Nat} {p : Nat → Int} {h g : yH} {B : Nat} (H : dR b e s dd t d K S q c p h g) (hT : dT t d) (F : btF B b t h g) (hn : 40 ≤ n) (hm : 60 ≤ m) : ∃ v h2, f_X5_richestCoast n [130] h = some (v, h2) ∧ f_X12_richestCoast m [35] g = some (v, g) ∧ ∀ a j, ¬ (a = 141) → h2 a j = h a j := by
  obtain ⟨B6, t6, ⟨h0, h10⟩, h4, hq, h28, hb⟩ := id F
  have p15 : h 130 15 = 141 := H.1.2.1.2.2.2.2.1
  have fz : ∀ a j, ¬ (a = 141) → (zup (zup (zup h 141 0 0) 141 1 0) 141 2 0) a j = h a j := fun a j w => by rw [zup_ne (by omega), zup_ne (by omega), zup_ne (by omega)]
  have fv : ∀ c, c < 3 → (zup (zup (zup h 141 0 0) 141 1 0) 141 2 0) 141 c = csB (g 17) t c 0 := fun c hc => by
    show _ = (0 : Int)
    rcases (show c = 0 ∨ c = 1 ∨ c = 2 by omega) with rfl | rfl | rfl <;> simp [zup]
  obtain ⟨h2, n2, f1, f2, f3, f4⟩ := coC_l H hT F B 0 n _ (by omega) (by omega) fz fv
  have cb : ∀ c, 0 ≤ csB (g 17) t c B ∧ csB (g 17) t c B ≤ 730620 := fun c => by
    have := csB_b (f := g 17) (t := t) (c := c) (B := B) (fun i hi => (hb i hi).2) B (Nat.le_refl _)
    omega
  have b0 := cb 0
  have b1 := cb 1
  have b2 := cb 2
  refine ⟨bs2 (fun c => csB (g 17) t c B), h2, ?_, ?_, f3⟩
  · obtain ⟨n2, rfl⟩ : ∃ n', n2 = n' + 3 := ⟨n2 - 3, by omega⟩
    rw [e_X5_richestCoast, xg_pos p15, fill3_e (by omega), xb_some]
    refine f2.trans ?_
    have q15 : h2 130 15 = 141 := by rw [f3 _ _ (by omega)]; exact p15
    have v0 := f4 0 (by decide)
    have v1 := f4 1 (by decide)
    have v2 := f4 2 (by decide)
    rw [e_X5_richestCoast_54, if_pos (by decide), xg_pos q15, xg_pos (by decide), xg_pos q15, xg_pos (by decide), show (0 : Int).toNat = 0 from rfl, show (1 : Int).toNat = 1 from rfl, v0, v1]
    have tail : ∀ x : Nat, x < 2 → xl_X5_richestCoast (n2 + 2) 54 [130, (x : Int), 2] h2 = some (if csB (g 17) t x B < csB (g 17) t 2 B then 2 else (x : Int), h2) := fun x hx => by
      rw [e_X5_richestCoast_54, if_pos (by decide), xg_pos q15, xg_pos (by decide), xg_pos q15, xg_pos (by omega), Int.toNat_natCast x, show (2 : Int).toNat = 2 from rfl, f4 x (by omega), v2]
      by_cases c : csB (g 17) t x B < csB (g 17) t 2 B
      · rw [if_pos c, if_pos c, xg_pos (by decide), show (2 : Int) + 1 = 3 from rfl, e_X5_richestCoast_54, if_neg (by decide)]
      · rw [if_neg c, if_neg c, xg_pos (by decide), show (2 : Int) + 1 = 3 from rfl, e_X5_richestCoast_54, if_neg (by decide)]
    unfold bs2 bs1
    by_cases c : csB (g 17) t 0 B < csB (g 17) t 1 B
    · rw [if_pos c, if_pos c, xg_pos (by decide), show (1 : Int) + 1 = 2 from rfl]
      exact tail 1 (by decide)
    · rw [if_neg c, if_neg c, xg_pos (by decide), show (1 : Int) + 1 = 2 from rfl]
      exact tail 0 (by decide)
  · obtain ⟨m, rfl⟩ : ∃ m', m = ((((m' + 1 + B + 1) + 1) + B + 1) + 1 + B + 1) + 1 := ⟨m - 3 * B - 7, by omega⟩
    have r0 := coR_l (w := 0) (be := 0) (mo := -1) H F B 0 (((m + 1 + B + 1) + 1) + B + 1 + 1) (by omega)
    rw [show ((0 : Nat) : Int) = 0 from rfl, show csB (g 17) t 0 0 = 0 from rfl, if_pos (by omega), gr_e, xb_some, xg_pos (by decide), Int.max_eq_right (by omega), show (0 : Int) + 1 = 1 from rfl] at r0
    rw [e_X12_richestCoast, e_X12_richestCoast_6, if_pos (by decide)]
    refine r0.trans ?_
    have tail : ∀ x : Nat, x < 2 → xl_X12_richestCoast ((m + 1 + B + 1) + 1) 6 [35, (x : Int), csB (g 17) t x B, 2] g = some (if csB (g 17) t x B < csB (g 17) t 2 B then 2 else (x : Int), g) := fun x hx => by
      have r2 := coR_l (w := 2) (be := (x : Int)) (mo := csB (g 17) t x B) H F B 0 (m + 1) (by omega)
      rw [show ((2 : Nat) : Int) = 2 from rfl, show ((0 : Nat) : Int) = 0 from rfl, show csB (g 17) t 2 0 = 0 from rfl] at r2
      rw [e_X12_richestCoast_6, if_pos (by decide)]
      refine r2.trans ?_
      by_cases c : csB (g 17) t x B < csB (g 17) t 2 B
      · rw [if_pos c, if_pos c, gr_e, xb_some, xg_pos (by decide), show (2 : Int) + 1 = 3 from rfl, e_X12_richestCoast_6, if_neg (by decide)]
      · rw [if_neg c, if_neg c, gr_e, xb_some, xg_pos (by decide), show (2 : Int) + 1 = 3 from rfl, e_X12_richestCoast_6, if_neg (by decide)]
    have r1 := coR_l (w := 1) (be := 0) (mo := csB (g 17) t 0 B) H F B 0 ((m + 1 + B + 1) + 1) (by omega)
    rw [show ((1 : Nat) : Int) = 1 from rfl, show ((0 : Nat) : Int) = 0 from rfl, show csB (g 17) t 1 0 = 0 from rfl] at r1
    rw [e_X12_richestCoast_6, if_pos (by decide)]
    refine r1.trans ?_
    unfold bs2 bs1
    by_cases c : csB (g 17) t 0 B < csB (g 17) t 1 B
    · rw [if_pos c, if_pos c, gr_e, xb_some, xg_pos (by decide), show (1 : Int) + 1 = 2 from rfl, Int.max_eq_right (by omega)]
      exact tail 1 (by decide)
    · rw [if_neg c, if_neg c, gr_e, xb_some, xg_pos (by decide), show (1 : Int) + 1 = 2 from rfl, Int.max_eq_left (by omega)]
      exact tail 0 (by decide)
theorem RR_sum {m n : Nat} {x y w : Int} {h g : yH} (hn : 300 ≤ n) (hm : 300 ≤ m) (R : RR True h g) (hW : WH g) (hp : cPr h) (h13 : h 1 3 = 130) (hL : lnI h) (hl : h 4 1 ≤ 600) (hq : rQ g) (h4 : ∀ j, j < 12 → 0 ≤ g 4 j ∧ g 4 j ≤ 2) : ∃ v h2 g2, f_X11_sum n [1, x, y, w] h = some (v, h2) ∧ f_X12_sum m [35, x, y, w] g = some (v, g2) ∧ dyK h g h2 g2 := by
  obtain ⟨v, h2, g2, e1, e2, e13, kk, e3⟩ := stopD (x := x) (y := y) hn hm R hW hp h13 hL hl hq h4
  rcases e3 with ev | ⟨ev, e3⟩
  · refine ⟨-2, h2, g2, ?_, ?_, kk⟩
    · rw [e_X11_sum, e1, xb_some, if_pos ev]
    · rw [e_X12_sum, e2, xb_some, if_pos ev]
  obtain ⟨b, e, s, dd, t, d, S, q, c, k2, p, hT, D, -, hc, z, -, -⟩ := e3
  have F := D.btF hT hc
  have p0 := D.1.2.1
  by_cases c0 : w = 0
  · obtain ⟨r, a1, a2⟩ := luck2 (n := n) (m := m) F (by omega) (by omega)
    refine ⟨r, h2, g2, ?_, ?_, kk⟩
    · rw [e_X11_sum, e1, xb_some, if_neg (by omega), if_pos c0, xg_pos e13, a1, xb_some]
    · rw [e_X12_sum, e2, xb_some, if_neg (by omega), if_pos c0, a2, xb_some]
  by_cases c1 : w = 1
  · obtain ⟨r, a1, a2⟩ := fish2 (n := n) (m := m) D (by omega) (by omega)
    refine ⟨r, h2, g2, ?_, ?_, kk⟩
    · rw [e_X11_sum, e1, xb_some, if_neg (by omega), if_neg c0, if_pos c1, xg_pos e13, xg_pos p0.1, a1, xb_some]
    · rw [e_X12_sum, e2, xb_some, if_neg (by omega), if_neg c0, if_pos c1, a2, xb_some]
  by_cases c2 : w = 2
  · obtain ⟨r, h3, a1, a2, a3⟩ := coast2 (n := n) (m := m) D hT F (by omega) (by omega)
    refine ⟨r, h3, g2, ?_, ?_, kk.mix hL hl (p0.fr (fun a j w => a3 a j (by omega))) (fun a j w => (a3 a j (by omega)).trans (kk.2.2.1 a j w))⟩
    · rw [e_X11_sum, e1, xb_some, if_neg (by omega), if_neg c0, if_neg c1, if_pos c2, xg_pos e13, a1, xb_some]
    · rw [e_X12_sum, e2, xb_some, if_neg (by omega), if_neg c0, if_neg c1, if_pos c2, a2, xb_some]
  by_cases c3 : w = 3
  · have rc := rbC_l F (t 6).toNat 0 n (by omega) (by have := F.1; omega)
    have rr := rbR_l F (t 6).toNat 0 m (by omega) (by have := F.1; omega)
    rw [show ((0 : Nat) : Int) = 0 from rfl, show rbB (g2 17) 0 = -1 from rfl] at rc rr
    refine ⟨rbB (g2 17) (t 6).toNat, h2, g2, ?_, ?_, kk⟩
    · rw [e_X11_sum, e1, xb_some, if_neg (by omega), if_neg c0, if_neg c1, if_neg c2, if_pos c3, xg_pos e13, e_X5_richestBoat, rc, xb_some]
    · rw [e_X12_sum, e2, xb_some, if_neg (by omega), if_neg c0, if_neg c1, if_neg c2, if_pos c3, e_X12_richest, rr, xb_some]
  · refine ⟨-2, h2, g2, ?_, ?_, kk⟩
    · rw [e_X11_sum, e1, xb_some, if_neg (by omega), if_neg c0, if_neg c1, if_neg c2, if_neg c3]
    · rw [e_X12_sum, e2, xb_some, if_neg (by omega), if_neg c0, if_neg c1, if_neg c2, if_neg c3]
end
section
/-! gulls -/
def laB (f : Nat → Int) : Nat → Int
  | 0 => 0
  | k + 1 => laB f k + f k
theorem laB_b {f : Nat → Int} {B q : Nat} (hf : ∀ i, i < B → 0 ≤ f i ∧ f i ≤ (q : Int)) (hq : q ≤ 180) : ∀ k, k ≤ B → 0 ≤ laB f k ∧ laB f k ≤ 180 * (k : Int) := by
  intro k
  induction k with
  | zero => intro _; exact ⟨Int.le_refl _, show (0 : Int) ≤ 180 * ((0 : Nat) : Int) by decide⟩
  | succ k ih =>
    intro hk
    have i1 := ih (by omega)
    have h1 := hf k (by omega)
    show 0 ≤ laB f k + f k ∧ laB f k + f k ≤ 180 * ((k + 1 : Nat) : Int)
    omega
theorem lawC2_l {B b q : Nat} {f : Nat → Int} {h : yH} (hB : B ≤ 6) (h0 : h 130 0 = (b : Int)) (h10 : h b 10 = (B : Int)) (h5 : h 130 5 = 140) (hv : ∀ i, i < B → h 140 i = f i) (hf : ∀ i, i < B → 0 ≤ f i ∧ f i ≤ (q : Int)) (hq : q ≤ 180) : ∀ (mm k n : Nat), mm + k = B → mm < n → xl_X5_lawfulClaims n 4 [130, laB f k, (k : Int)] h = some (laB f B, h) := by
  intro mm
  induction mm with
  | zero =>
    intro k n e1 e2
    obtain ⟨n, rfl⟩ : ∃ n', n = n' + 1 := ⟨n - 1, by omega⟩
    rw [e_X5_lawfulClaims_4, h0, xg_pos (by omega), Int.toNat_natCast, h10, if_neg (by omega), show k = B by omega]
  | succ mm ih =>
    intro k n e1 e2
    obtain ⟨n, rfl⟩ : ∃ n', n = n' + 1 := ⟨n - 1, by omega⟩
    have bb := laB_b hf hq k (by omega)
    have h1 := hf k (by omega)
    rw [e_X5_lawfulClaims_4, h0, xg_pos (by omega), Int.toNat_natCast b, h10, if_pos (by omega), xg_pos h5, xg_pos (by omega), Int.toNat_natCast k, hv k (by omega), xg_pos (by omega), xg_pos (by omega), show (k : Int) + 1 = ((k + 1 : Nat) : Int) by omega]
    exact ih (k + 1) n (by omega) (by omega)
theorem lawR2_l {B q : Nat} {x1 x2 x3 x4 x5 : Int} {f : Nat → Int} {g : yH} (hB : B ≤ 6) (hq : rQ g) (h28 : g 35 28 = (B : Int)) (hv : ∀ i, i < B → g 18 i = f i) (hf : ∀ i, i < B → 0 ≤ f i ∧ f i ≤ (q : Int)) (hq1 : q ≤ 180) : ∀ (mm k n : Nat), mm + k = B → mm < n → xl_X12_gulls n 92 [35, x1, x2, x3, x4, x5, laB f k, (k : Int)] g = (if x5 = 0 then (some (laB f B, g)) else (if x5 = 1 then (some ((g 35 34), g)) else (xg (g 35 42 = 17) (xg (-2147483648 ≤ x5 - 10 ∧ x5 - 10 ≤ 2147483647) (xg (0 ≤ (x5 - 10) ∧ (x5 - 10) < 6) (some ((g 17 (x5 - 10).toNat), g))))))) := by
  intro mm
  induction mm with
  | zero =>
    intro k n e1 e2
    obtain ⟨n, rfl⟩ : ∃ n', n = n' + 1 := ⟨n - 1, by omega⟩
    rw [e_X12_gulls_92, h28, if_neg (by omega), show k = B by omega]
  | succ mm ih =>
    intro k n e1 e2
    obtain ⟨n, rfl⟩ : ∃ n', n = n' + 1 := ⟨n - 1, by omega⟩
    have bb := laB_b hf hq1 k (by omega)
    have h1 := hf k (by omega)
    rw [e_X12_gulls_92, h28, if_pos (by omega), xg_pos (hq.p (j := 43) (k := 18) (by decide)), xg_pos (by omega), Int.toNat_natCast k, hv k (by omega), xg_pos (by omega), xg_pos (by omega), show (k : Int) + 1 = ((k + 1 : Nat) : Int) by omega]
    exact ih (k + 1) n (by omega) (by omega)
theorem RR_gulls {m n : Nat} {x y sd k w : Int} {h g : yH} (hn : 300 ≤ n) (hm : 300 ≤ m) (hw : -2147483648 ≤ w ∧ w ≤ 2147483647) (R : RR True h g) (hW : WH g) (hp : cPr h) (h13 : h 1 3 = 130) (hL : lnI h) (hl : h 4 1 ≤ 600) (hq : rQ g) (h4 : ∀ j, j < 12 → 0 ≤ g 4 j ∧ g 4 j ≤ 2) : ∃ v h2 g2, f_X11_gulls n [1, x, y, sd, k, w] h = some (v, h2) ∧ f_X12_gulls m [35, x, y, sd, k, w] g = some (v, g2) ∧ dyK h g h2 g2 := by
  have R1 := R.c0 hL hl
  have hq1 := c0_q hq
  have h41 := c0_4 h4
  have hW1 := hW.c0
  have hP := R.1
  have n0 := R1.n6 (j := 0) (by decide)
  have n1 := R1.n6 (j := 1) (by decide)
  have b0 := h41 0 (by decide)
  have b1 := h41 1 (by decide)
  have p3 : h 1 0 = 3 := hP.p (by decide)
  obtain ⟨F1, F2⟩ := findBoth (n := n) (x := x) (y := y) hP (by omega) (by omega)
  have none0 : (¬ (0 ≤ k ∧ k ≤ 10) ∨ ¬ (0 ≤ x ∧ x < h 6 0) ∨ ¬ (0 ≤ y ∧ y < h 6 1)) → f_X11_gulls n [1, x, y, sd, k, w] h = some (-1, h) := fun c => by
    rw [e_X11_gulls, xg_pos p3, F1, xb_some, xg_pos p3, F2, xb_some]
    by_cases c1 : 0 ≤ x ∧ x < h 6 0
    · by_cases c2 : 0 ≤ y ∧ y < h 6 1
      · rw [if_pos c1, if_pos c2, if_neg (by omega), if_neg (by omega)]
        by_cases c3 : k < 0
        · rw [if_pos c3]
        · rw [if_neg c3, if_pos (by omega)]
      · rw [if_pos c1, if_neg c2, if_neg (by omega), if_pos (by decide)]
    · rw [if_neg c1, if_pos (by decide)]
  by_cases ck : 0 ≤ k ∧ k ≤ 10
  rotate_left
  · refine ⟨-1, h, zup g 35 0 0, none0 (Or.inl ck), ?_, dyK.c0 R hL hl hp⟩
    rw [e_X12_gulls, in_f ck, xb_some, if_pos rfl]
  by_cases cy : 0 ≤ y ∧ y < (zup g 35 0 0) 4 1
  rotate_left
  · refine ⟨-1, h, zup (zup g 35 0 0) 35 33 y, none0 (Or.inr (Or.inr (by omega))), ?_, dyK.n R hL hl hq hp⟩
    rw [e_X12_gulls, in_t ck, xb_some, if_neg (by decide), hasDay_e hq1.P h41, xb_some, if_neg cy, if_pos rfl]
  have n4 : ∀ j, (zup (zup g 35 0 0) 35 33 y) 4 j = (zup g 35 0 0) 4 j := fun j => zup_ne (by omega)
  have q1 : rQ (zup (zup g 35 0 0) 35 33 y) := hq1.up (Or.inr (by decide))
  by_cases cx : 0 ≤ x ∧ x < (zup g 35 0 0) 4 0
  rotate_left
  · refine ⟨-1, h, zup (zup g 35 0 0) 35 33 y, none0 (Or.inr (Or.inl (by omega))), ?_, dyK.n R hL hl hq hp⟩
    rw [e_X12_gulls, in_t ck, xb_some, if_neg (by decide), hasDay_e hq1.P h41, xb_some, if_pos cy, if_neg (by decide), hand_n q1 (fun j hj => by rw [n4]; exact h41 j hj) (by rw [n4]; exact cx), xb_some, if_pos rfl]
  obtain ⟨s, rfl⟩ : ∃ s : Nat, x = (s : Int) := ⟨x.toNat, by omega⟩
  obtain ⟨dd, rfl⟩ : ∃ dd : Nat, y = (dd : Int) := ⟨y.toNat, by omega⟩
  obtain ⟨t, d, hT, C, ht, hD⟩ := dayIn (s := s) (dd := dd) R1 hW1 hp (by omega) cx.2 (by omega) cy.2
  obtain ⟨v, g2, e1, rv, H⟩ := hand_e (n := m) (s := s) (t := t) (by omega) q1 (fun j hj => by rw [n4]; exact h41 j hj) (by rw [n4]; exact cx.2) (fun j hj => by rw [zup_ne (by omega)]; exact ht j hj) hT.1
  subst rv
  obtain ⟨H1, ⟨H2, H3, H4, H5, H6, H7⟩, H8, H9⟩ := H
  have d30 := hT.2.2.1
  have w6 := hT.1.wd.2.2.2.2
  have frg : frZ (zup g 35 0 0) g2 := fun a j q => by rw [H9 a j (by omega) (by omega) (by omega), zup_ne (by omega)]
  have C0 : ∀ r : yO, (if w < 10 then (if w = 0 then (xq_X11_gulls_89 n [1, (s : Int), (dd : Int), sd, k, w, ((20 + 10 * s : Nat) : Int), ((40 + 10 * dd : Nat) : Int), 0] h) else (if w = 1 then (xq_X11_gulls_89 n [1, (s : Int), (dd : Int), sd, k, w, ((20 + 10 * s : Nat) : Int), ((40 + 10 * dd : Nat) : Int), 0] h) else (some ((-1), h)))) else (if 0 ≤ w - 10 ∧ w - 10 < t 6 then (xq_X11_gulls_89 n [1, (s : Int), (dd : Int), sd, k, w, ((20 + 10 * s : Nat) : Int), ((40 + 10 * dd : Nat) : Int), 1] h) else (some ((-1), h)))) = r → f_X11_gulls n [1, (s : Int), (dd : Int), sd, k, w] h = r := by
    intro r er
    rw [e_X11_gulls, xg_pos p3, F1, xb_some, xg_pos p3, F2, xb_some, if_pos (show 0 ≤ (s : Int) ∧ (s : Int) < h 6 0 by omega), if_pos (show 0 ≤ (dd : Int) ∧ (dd : Int) < h 6 1 by omega), show 20 + 10 * (s : Int) = ((20 + 10 * s : Nat) : Int) by omega, show 40 + 10 * (dd : Int) = ((40 + 10 * dd : Nat) : Int) by omega, if_neg (by omega), if_neg (by omega), if_neg (by omega), if_neg (by omega)]
    by_cases c10 : w < 10
    · rw [if_pos c10]
      rw [if_pos c10] at er
      by_cases z0 : w = 0
      · rw [if_pos z0] at er ⊢
        exact er
      · rw [if_neg z0] at er ⊢
        by_cases z1 : w = 1
        · rw [if_pos z1] at er ⊢
          exact er
        · rw [if_neg z1] at er ⊢
          rw [if_pos rfl]
          exact er
    · rw [if_neg c10, xg_pos (by omega), xg_pos (by omega), hasBoat_e C.2.2.1, xb_some]
      rw [if_neg c10] at er
      by_cases cb : 0 ≤ w - 10 ∧ w - 10 < t 6
      · rw [if_pos cb, if_neg (by decide), if_neg (by omega), if_neg (by omega), if_neg (by decide)]
        rw [if_pos cb] at er
        exact er
      · rw [if_neg cb, if_pos rfl, if_neg (by omega), if_neg (by omega), if_pos rfl]
        rw [if_neg cb] at er
        exact er
  have R0 : ∀ r : yO, (if 0 ≤ w ∧ w ≤ 1 ∨ 10 ≤ w ∧ w ≤ 9 + t 6 then (xq_X12_gulls_61 m (xl_X12_gulls m) [35, (s : Int), (dd : Int), sd, k, w] g2) else (some ((-1), g2))) = r → f_X12_gulls m [35, (s : Int), (dd : Int), sd, k, w] g = r := by
    intro r er
    rw [e_X12_gulls, in_t ck, xb_some, if_neg (by decide), hasDay_e hq1.P h41, xb_some, if_pos cy, if_neg (by decide), e1, xb_some, if_neg (by decide)]
    by_cases c1 : 0 ≤ w ∧ w ≤ 1
    · rw [if_pos (Or.inl c1)] at er
      rw [in_t c1, xb_some, if_neg (by decide)]
      exact er
    · rw [in_f c1, xb_some, if_pos rfl, H7, xg_pos (by omega)]
      by_cases c2 : 10 ≤ w ∧ w ≤ 9 + t 6
      · rw [if_pos (Or.inr c2)] at er
        rw [in_t c2, xb_some, if_neg (by decide)]
        exact er
      · rw [if_neg (by omega)] at er
        rw [in_f c2, xb_some, if_pos rfl]
        exact er
  by_cases cw : 0 ≤ w ∧ w ≤ 1 ∨ 10 ≤ w ∧ w ≤ 9 + t 6
  rotate_left
  · refine ⟨-1, h, g2, C0 _ ?_, R0 _ ?_, ⟨R1.z hL hl frC.r frg H1.2.2.2, hp, frC.r, fun a j w1 w2 => (frg a j (by omega)).trans (zup_ne (by omega))⟩⟩
    · by_cases c10 : w < 10
      · rw [if_pos c10, if_neg (by omega), if_neg (by omega)]
      · rw [if_neg c10, if_neg (by omega)]
    · rw [if_neg cw]
  have sHB : sH s t (zup (zup g2 35 51 sd) 35 50 k) := H1.nf (fun a j q => by
    unfold nqj at q
    rw [zup_ne (by omega), zup_ne (by omega)])
  have kB : ∀ j, j ≠ 50 → j ≠ 51 → (zup (zup g2 35 51 sd) 35 50 k) 35 j = g2 35 j := fun j q1 q2 => by rw [zup_ne (by omega), zup_ne (by omega)]
  have kA : ∀ a j, a ≠ 35 → (zup (zup g2 35 51 sd) 35 50 k) a j = g2 a j := fun a j q => by rw [zup_ne (by omega), zup_ne (by omega)]
  have k33 : g2 35 33 = (dd : Int) := by rw [H9 _ _ (by omega) (by omega) (by omega), zup_at]
  have k6 : ∀ j, j < 121 → g2 6 (121 * dd + j) = d j := fun j hj => by
    rw [H9 _ _ (by omega) (by omega) (by omega), zup_ne (by omega)]
    exact hD j hj
  have BC : bCr s dd t d k sd (zup (zup g2 35 51 sd) 35 50 k) := ⟨⟨sHB, by rw [kB _ (by omega) (by omega)]; exact H2, by rw [kB _ (by omega) (by omega)]; exact H3, by rw [kB _ (by omega) (by omega)]; exact H4, by rw [kB _ (by omega) (by omega)]; exact H5, by rw [kB _ (by omega) (by omega)]; exact H7, fun i hi => by rw [kA _ _ (by omega)]; exact (H8 i hi).2⟩, by rw [kB _ (by omega) (by omega)]; exact H6, ⟨by omega, by rw [kB _ (by omega) (by omega)]; exact k33⟩, fun j hj => by rw [kA _ _ (by omega)]; exact k6 j hj, ck, Or.inl (zup_at _ _ _ _), fun _ => by rw [zup_ne (by omega), zup_at]⟩
  obtain ⟨h0, g0, f1, f2, D0, z34, z50, fc, fk⟩ := begin2 (n := n) (m := m) (by omega) (by omega) hT C BC
  obtain ⟨k2, hE, gE, sm⟩ := sim2 (x1 := 30) hT (d 0).toNat 0 (d 0).toNat n m _ 0 0 _ h0 g0 (by omega) (by omega) (by omega) (by omega) (by omega) (by omega) D0 z34
  have go := sm.go (by omega) (by omega)
  rw [show (((d 0).toNat : Nat) : Int) = d 0 by omega] at go
  obtain ⟨⟨y1, y2⟩, ⟨S2, p2, y3⟩, ⟨y4, y5⟩, y6, y7, -⟩ := sm
  have k0 : h0 130 1 = ((40 + 10 * dd : Nat) : Int) := D0.1.2.2.2.1
  have kd : h0 (40 + 10 * dd) 0 = d 0 := D0.1.2.2.2.2.2.2.1.1
  have eE := y3.2.1.1.1.2.2.2
  have p0 := y3.1.2.1
  have hE13 : hE 1 3 = 130 := by rw [y6 _ _ (by omega), fc _ _ (by omega)]; exact h13
  have fZ : frZ (zup g 35 0 0) (zup gE 35 50 (-1)) := fun a j q => by
    rw [zup_ne (by omega), y7.z a j q, fk.z a j q, kA _ _ (by omega)]
    exact frg a j q
  have K : dyK h g hE (zup gE 35 50 (-1)) := ⟨R1.z hL hl (fc.t y6) fZ (eE.up (Or.inr (by decide))), p0, fc.t y6, fun a j w1 w2 => (fZ a j (by omega)).trans (zup_ne (by omega))⟩
  have hBt : ∀ i, i < (t 6).toNat → hE 140 i = gE 18 i := fun i hi => (y3.2.2.2.2.2 i (by omega)).2.2.1
  have hf : ∀ i, i < (t 6).toNat → 0 ≤ gE 18 i ∧ gE 18 i ≤ ((0 + 6 * ((d 0).toNat - 0) : Nat) : Int) := fun i hi => (y3.2.2.2.2.2 i (by omega)).2.2.2
  have lc := lawC2_l (B := (t 6).toNat) (b := 20 + 10 * s) (f := gE 18) (h := hE) (by omega) y3.1.2.2.1 (by rw [y3.1.2.2.2.2.1.2.2.2.2.2.2.1]; omega) p0.2.2.2.1 hBt hf (by omega) (t 6).toNat 0 n (by omega) (by omega)
  have lr := lawR2_l (B := (t 6).toNat) (x1 := (s : Int)) (x2 := (dd : Int)) (x3 := sd) (x4 := k) (x5 := w) (f := gE 18) (g := zup gE 35 50 (-1)) (by omega) (eE.up (Or.inr (by decide))) (by rw [zup_ne (by omega), y3.2.1.1.2.2.2.2.2.2.1, bU_n (j := 6) (by omega)]; omega) (fun i _ => zup_ne (by omega)) hf (by omega) (t 6).toNat 0 m (by omega) (by omega)
  rw [show ((0 : Nat) : Int) = 0 from rfl, show laB (gE 18) 0 = 0 from rfl] at lc lr
  have eC : ∀ fl : Int, xq_X11_gulls_89 n [1, (s : Int), (dd : Int), sd, k, w, ((20 + 10 * s : Nat) : Int), ((40 + 10 * dd : Nat) : Int), fl] h = (if fl = 0 then (if w = 0 then (xg (hE 1 3 = 130) (xb (f_X5_lawfulClaims n [130] hE) (fun v3 h3 => some (v3, h3)))) else (xg (hE 1 3 = 130) (some ((hE 130 6), hE)))) else (xg (hE 1 3 = 130) (xg (hE 130 4 = 139) (xg (-2147483648 ≤ w - 10 ∧ w - 10 ≤ 2147483647) (xg (0 ≤ (w - 10) ∧ (w - 10) < 6) (some ((hE 139 (w - 10).toNat), hE))))))) := by
    intro fl
    rw [e_X11_gulls_89, xg_pos h13, xg_pos (by omega), xg_pos (by omega), f1, xb_some, xg_pos (by rw [fc _ _ (by omega)]; exact h13), e_X5_go, k0, xg_pos (by omega), Int.toNat_natCast, kd, show min 30 (d 0) = d 0 by omega, go.1, xb_some]
  have eR : xq_X12_gulls_61 m (xl_X12_gulls m) [35, (s : Int), (dd : Int), sd, k, w] g2 = xl_X12_gulls m 92 [35, (s : Int), (dd : Int), sd, k, w, 0, 0] (zup gE 35 50 (-1)) := by
    rw [e_X12_gulls_61, e_X12_deeds, xg_pos (sHB.2.2.2.p (j := 7) (k := 6) (by decide)), kB 33 (by omega) (by omega), k33, xg_pos (by omega), xg_pos (by omega), show (121 * (dd : Int)).toNat = 121 * dd + 0 by omega, kA _ _ (by omega), k6 0 (by decide), xb_some, e_X12_play, f2, xb_some, go.2, xb_some]
  rw [if_pos cw, eR, lr] at R0
  by_cases c0 : w = 0
  · refine ⟨laB (gE 18) (t 6).toNat, hE, zup gE 35 50 (-1), C0 _ ?_, R0 _ ?_, K⟩
    · rw [if_pos (by omega), if_pos c0, eC, if_pos rfl, if_pos c0, xg_pos hE13, e_X5_lawfulClaims, lc, xb_some]
    · rw [if_pos c0]
  by_cases c1 : w = 1
  · refine ⟨gE 35 34, hE, zup gE 35 50 (-1), C0 _ ?_, R0 _ ?_, K⟩
    · rw [if_pos (by omega), if_neg c0, if_pos c1, eC, if_pos rfl, if_neg c0, xg_pos hE13, y3.2.2.1.1]
    · rw [if_neg c0, if_pos c1, zup_ne (by omega)]
  · obtain ⟨i, ei⟩ : ∃ i : Nat, w - 10 = (i : Int) := ⟨(w - 10).toNat, by omega⟩
    refine ⟨gE 17 i, hE, zup gE 35 50 (-1), C0 _ ?_, R0 _ ?_, K⟩
    · rw [if_neg (by omega), if_pos (by omega), eC, if_neg (by decide), xg_pos hE13, xg_pos p0.2.2.1, xg_pos (by omega), xg_pos (by omega), ei, Int.toNat_natCast, (y3.2.2.2.2.2 i (by omega)).2.1.1]
    · rw [if_neg c0, if_neg c1, xg_pos (by rw [zup_ne (by omega)]; exact eE.p (j := 42) (k := 17) (by decide)), xg_pos (by omega), xg_pos (by omega), ei, Int.toNat_natCast, zup_ne (by omega)]
end
section
/-! winds, with what it leaves -/
theorem RR_winds2 {m n : Nat} {x w : Int} {h g : yH} (hn : 60 ≤ n) (hm2 : 160 ≤ m) (R : RR True h g) (hw : cPw h) (hL : lnI h) (hm : h 4 1 ≤ 600) (hq : rQ g) (h4 : ∀ j, j < 12 → 0 ≤ g 4 j ∧ g 4 j ≤ 2) : ∃ v h2 g2, f_X11_winds n [1, x, w] h = some (v, h2) ∧ f_X12_winds m [35, x, w] g = some (v, g2) ∧ (RR True h2 g2 ∧ cPw h2) ∧ ∀ a j, a < 150 ∨ 168 ≤ a → h2 a j = h a j := by
  have hP := R.1
  have n0 := R.n6 (j := 0) (by decide)
  have b0 := h4 0 (by decide)
  by_cases c2 : 0 ≤ w ∧ w ≤ 2
  · by_cases c : 0 ≤ x ∧ x < h 6 0
    · obtain ⟨s, rfl⟩ : ∃ s : Nat, x = (s : Int) := ⟨x.toNat, by omega⟩
      obtain ⟨t, a1, a2, a3, a4⟩ := R.sea (s := s) (by omega) (by omega)
      obtain ⟨v, h2, e1, r1, r2, r3⟩ := wndC_e (w := w) hn hP hw (by omega) c.2 a1 a2 a4 c2
      obtain ⟨v5, g5, e5, rv, H⟩ := hand_e (n := m) (s := s) (t := t) (by omega) (c0_q hq) (c0_4 h4) (by rw [zup_ne (by omega)]; omega) (fun j hj => by rw [zup_ne (by omega)]; exact a3 j hj) a4
      subst rv
      obtain ⟨v6, g6, e6, rv6, f6⟩ := wndR_l (x1 := (s : Int)) (w := w) (n := m) a4 (g := g5) ⟨H.1, H.2.1.1, H.2.1.2.1, H.2.1.2.2.2.2.2, H.2.2.1⟩ (by omega)
      have R5 : RR True h g5 := (R.c0 hL hm).hd hL hm H
      have q5 : rQ g5 := H.1.2.2.2
      have q6 : rQ g6 := q5.fr (fun j hj => f6 _ _ (fun c => by
        have : ∀ j ∈ rQs, ¬ (j = 26 ∨ j = 27) := by decide
        exact this j hj c.2))
      have R6 : RR True h g6 := R5.gf hL hm q6.P (fun a j w => f6 a j (by omega))
      refine ⟨v, h2, g6, e1, ?_, ⟨R6.hf hL hm (fun a j w => r3 a j (by omega) (by omega)), r2⟩, fun a j w => r3 a j (by omega) (by omega)⟩
      rw [e_X12_winds, in_t c2, xb_some, if_neg (by decide), e5, xb_some, if_neg (by decide), e6, rv6, r1]
    · refine ⟨-1, h, zup g 35 0 0, ?_, ?_, ⟨R.c0 hL hm, hw⟩, fun _ _ _ => rfl⟩
      · rw [e_X11_winds, xg_pos (hP.p (by decide)), findSea_e hP (by omega), xb_some, if_neg c, if_pos (by decide)]
      · rw [e_X12_winds, in_t c2, xb_some, if_neg (by decide), hand_n (c0_q hq) (c0_4 h4) (by rw [zup_ne (by omega)]; omega), xb_some, if_pos rfl]
  · refine ⟨-1, h, zup g 35 0 0, ?_, ?_, ⟨R.c0 hL hm, hw⟩, fun _ _ _ => rfl⟩
    · rw [e_X11_winds, xg_pos (hP.p (by decide)), findSea_e hP (by omega), xb_some]
      by_cases c : 0 ≤ x ∧ x < h 6 0
      · rw [if_pos c, if_neg (by omega)]
        by_cases c3 : w < 0
        · rw [if_pos c3]
        · rw [if_neg c3, if_pos (by omega)]
      · rw [if_neg c, if_pos (by decide)]
    · rw [e_X12_winds, in_f c2, xb_some, if_pos rfl]
end
section
/-! where a boat had best be: fish of shoals together, looks from cells -/
def cPc (h : yH) : Prop := h 170 3 = 171 ∧ h 170 4 = 172 ∧ h 170 5 = 173
theorem cPc.fr {h h2 : yH} (p : cPc h) (e : ∀ j, 3 ≤ j → j ≤ 5 → h2 170 j = h 170 j) : cPc h2 := ⟨by rw [e _ (by omega) (by omega)]; exact p.1, by rw [e _ (by omega) (by omega)]; exact p.2.1, by rw [e _ (by omega) (by omega)]; exact p.2.2⟩
def fsT (t : Nat → Int) (x : Int) : Nat → Int
  | 0 => 0
  | k + 1 => fsT t x k + (if bt x k = true then t (20 + 3 * k) else 0)
def fsV (t : Nat → Int) (x : Int) : Int := fsT t x (t 5).toNat
theorem fsT_b {t : Nat → Int} {x : Int} (hW : tW0 t) : ∀ k, k ≤ 4 → 0 ≤ fsT t x k ∧ fsT t x k ≤ 99 * (k : Int) := by
  intro k
  induction k with
  | zero => intro _; exact ⟨Int.le_refl _, show (0 : Int) ≤ 99 * ((0 : Nat) : Int) by decide⟩
  | succ k ih =>
    intro hk
    have i1 := ih (by omega)
    have s := (hW.sh (k := k) (by omega)).2.1
    show 0 ≤ fsT t x k + (if bt x k = true then t (20 + 3 * k) else 0) ∧ fsT t x k + (if bt x k = true then t (20 + 3 * k) else 0) ≤ 99 * ((k + 1 : Nat) : Int)
    by_cases c : bt x k = true
    · rw [if_pos c]; omega
    · rw [if_neg c]; omega
theorem fsV_b {t : Nat → Int} {x : Int} (hW : tW0 t) : 0 ≤ fsV t x ∧ fsV t x ≤ 396 := by
  have w5 := hW.sl
  have := fsT_b (x := x) hW (t 5).toNat (by omega)
  unfold fsV
  omega
theorem fsT_0 {t : Nat → Int} : ∀ k, k ≤ 6 → fsT t 0 k = 0 := by
  intro k
  induction k with
  | zero => intro _; rfl
  | succ k ih =>
    intro hk
    have z : ∀ c : Fin 6, bt 0 c.val = false := by decide +kernel
    have := z ⟨k, by omega⟩
    simp only at this
    show fsT t 0 k + (if bt 0 k = true then t (20 + 3 * k) else 0) = 0
    rw [this, if_neg (by decide), ih (by omega), Int.add_zero]
theorem fsV_0 {t : Nat → Int} (hW : tW0 t) : fsV t 0 = 0 := fsT_0 _ (by have := hW.sl; omega)
theorem aft_in {b : Nat} {x : Int} {t : Nat → Int} {h : yH} (hS : cS b t h) (hp : cSp b h) (hW : tW0 t) (hx : 0 ≤ x ∧ x < 16) (p5 : h 170 5 = 173) : ∀ (mm k n : Nat), mm + k = (t 5).toNat → xl_X0_addFishTogether (n + mm + 1) 16 [170, (b : Int), x, fsT t x k, (k : Int)] h = xl_X0_addFishTogether n 2 [170, (b : Int), x + 1] (zup h 173 x.toNat (fsV t x)) := by
  have w5 := hW.sl
  obtain ⟨a0, a1, a2, a3, a4, a5, a6, a7, a8, a9, a10⟩ := id hS
  intro mm
  induction mm with
  | zero =>
    intro k n e1
    rw [e_X0_addFishTogether_16, Int.toNat_natCast, a5, if_neg (by omega), xg_pos p5, xg_pos (by omega), xg_pos (by omega)]
    unfold fsV
    rw [show (t 5).toNat = k by omega]
  | succ mm ih =>
    intro k n e1
    have nx := ih (k + 1) n (by omega)
    have st : fsT t x (k + 1) = fsT t x k + (if bt x k = true then t (20 + 3 * k) else 0) := rfl
    have b1 := fsT_b (x := x) hW k (by omega)
    have s := (hW.sh (k := k) (by omega)).2.1
    have qb := (bit_b (x := x) (by omega)).2 k (by omega)
    have e3 : ((b : Int) + 3).toNat = b + 3 := by omega
    have ey : yari 7 (yari 6 x (k : Int)) 1 * t (20 + 3 * k) = if bt x k = true then t (20 + 3 * k) else 0 := by
      by_cases c : bt x k = true
      · rw [if_pos c, qb.mpr c, Int.one_mul]
      · rw [if_neg c, (bit_01 _).resolve_right (fun w => c (qb.mp w)), Int.zero_mul]
    rw [st] at nx
    have b2 : 0 ≤ (if bt x k = true then t (20 + 3 * k) else 0) ∧ (if bt x k = true then t (20 + 3 * k) else 0) ≤ 99 := by
      by_cases c : bt x k = true
      · rw [if_pos c]; omega
      · rw [if_neg c]; omega
    rw [show n + (mm + 1) + 1 = (n + mm + 1) + 1 by omega, e_X0_addFishTogether_16, Int.toNat_natCast b, a5, if_pos (by omega), xg_pos hp.2.2.1, xg_pos (by omega), e3, Int.toNat_natCast k, (a9 k (by omega)).2.1, ey, xg_pos (by omega), xg_pos (by omega), xg_pos (by omega), show (k : Int) + 1 = ((k + 1 : Nat) : Int) by omega]
    exact nx
theorem aft_l {b : Nat} {t : Nat → Int} {h : yH} (hb : b + 8 ≤ 170) (hW : tW0 t) : ∀ (mm x n : Nat) (h1 : yH), mm + x = 16 → 6 * mm + 2 ≤ n → cS b t h1 → cSp b h1 → h1 170 5 = 173 → (∀ a j, a ≠ 173 → h1 a j = h a j) → (∀ j, j < x → h1 173 j = fsV t (j : Int)) →
    ∃ h2, xl_X0_addFishTogether n 2 [170, (b : Int), (x : Int)] h1 = some (0, h2) ∧ (∀ a j, a ≠ 173 → h2 a j = h a j) ∧ ∀ j, j < 16 → h2 173 j = fsV t (j : Int) := by
  have w5 := hW.sl
  intro mm
  induction mm with
  | zero =>
    intro x n h1 e1 e2 hS hp p5 fr hv
    obtain ⟨n, rfl⟩ : ∃ n', n = n' + 1 := ⟨n - 1, by omega⟩
    refine ⟨h1, ?_, fr, fun j hj => hv j (by omega)⟩
    rw [e_X0_addFishTogether_2, xg_pos p5, if_neg (by omega)]
  | succ mm ih =>
    intro x n h1 e1 e2 hS hp p5 fr hv
    obtain ⟨n, rfl⟩ : ∃ n', n = (n' + (t 5).toNat + 1) + 1 := ⟨n - (t 5).toNat - 2, by omega⟩
    have l := aft_in hS hp hW (x := (x : Int)) (by omega) p5 (t 5).toNat 0 n (by omega)
    rw [show ((0 : Nat) : Int) = 0 from rfl, show fsT t (x : Int) 0 = 0 from rfl, Int.toNat_natCast, show (x : Int) + 1 = ((x + 1 : Nat) : Int) by omega] at l
    have f1 : ∀ a j, a ≠ 173 → (zup h1 173 x (fsV t (x : Int))) a j = h1 a j := fun a j w => zup_ne (by omega)
    obtain ⟨h2, g1, g2, g3⟩ := ih (x + 1) n (zup h1 173 x (fsV t (x : Int))) (by omega) (by omega) (hS.fr (fun a j w1 w2 => f1 a j (by omega))) (hp.fr (fun j _ => f1 b j (by omega))) (by rw [f1 _ _ (by omega)]; exact p5) (fun a j w => (f1 a j w).trans (fr a j w)) (fun j hj => by
      by_cases q : j = x
      · rw [q, zup_at]
      · rw [zup_ne (by omega)]; exact hv j (by omega))
    refine ⟨h2, ?_, g2, g3⟩
    rw [e_X0_addFishTogether_2, xg_pos p5, if_pos (by omega), l]
    exact g1
/-- witnesses but for one -/
def wvN (t : Nat → Int) (a : Nat) (lo : Int) (x : Int) : Int := bcn (if lo = -1 then hst t x (t (32 + 3 * a)) a (t 6).toNat else clr (hst t x (t (32 + 3 * a)) a (t 6).toNat) lo.toNat)
theorem andm1F : ∀ x : Fin 64, yari 7 (x.val : Int) (-1) = (x.val : Int) := by decide +kernel
theorem andm1 {x : Int} (hx : 0 ≤ x ∧ x ≤ 63) : yari 7 x (-1) = x := by
  have := andm1F ⟨x.toNat, by omega⟩
  simp only at this
  rw [show ((x.toNat : Nat) : Int) = x by omega] at this
  exact this
theorem b15F : ∀ x : Fin 64, (∀ j : Fin 6, 4 ≤ j.val → bt (x.val : Int) j.val = false) → x.val ≤ 15 := by decide +kernel
theorem nst_15 {t : Nat → Int} {a : Nat} {fr : Int} (hW : tW0 t) : 0 ≤ nst t a fr (t 5).toNat ∧ nst t a fr (t 5).toNat ≤ 15 := by
  have w5 := hW.sl
  obtain ⟨n1, n2⟩ := nst_b (t := t) (b := a) (fr := fr) (t 5).toNat (by omega)
  refine ⟨n1.1, ?_⟩
  have q := b15F ⟨(nst t a fr (t 5).toNat).toNat, by omega⟩ (fun j hj => by
    simp only
    rw [show (((nst t a fr (t 5).toNat).toNat : Nat) : Int) = nst t a fr (t 5).toNat by omega]
    cases e : bt (nst t a fr (t 5).toNat) j.val with
    | false => rfl
    | true =>
      have := ((n2 j.val j.isLt).mp e).1
      omega)
  simp only at q
  omega
theorem cells_e {n b : Nat} {t : Nat → Int} {h : yH} (hS : cS b t h) (hW : tW0 t) : f_X6_cells n [(b : Int)] h = some (t 0 * t 1, h) := by
  have m1 := Int.mul_le_mul hW.1.2 hW.2.1.2 (by have := hW.2.1; omega) (by decide)
  have m0 := Int.mul_nonneg (show 0 ≤ t 0 by have := hW.1; omega) (show 0 ≤ t 1 by have := hW.2.1; omega)
  have e : (8 : Int) * 8 = 64 := by decide
  rw [eg_X6_cells, Int.toNat_natCast, hS.1, hS.2.1]
  generalize t 0 * t 1 = z at *
  rw [xg_pos (by omega)]
theorem M_b {t : Nat → Int} (hW : tW0 t) : 4 ≤ t 0 * t 1 ∧ t 0 * t 1 ≤ 64 := by
  have m1 := Int.mul_le_mul hW.1.2 hW.2.1.2 (by have := hW.2.1; omega) (by decide)
  have m0 := Int.mul_le_mul hW.1.1 hW.2.1.1 (by decide) (by have := hW.1; omega)
  have e : (8 : Int) * 8 = 64 := by decide
  have e2 : (2 : Int) * 2 = 4 := by decide
  omega
/-- what looks from cells leave: near shoals, witnesses -/
def lkI (t : Nat → Int) (a : Nat) (lo : Int) (of : Nat) (M : Nat) (h h2 : yH) : Prop := (∀ c : Nat, c < M → h2 171 (of + c) = nst t a (c : Int) (t 5).toNat ∧ h2 172 (of + c) = wvN t a lo (c : Int)) ∧ (∀ x j, ¬ ((x = 171 ∨ x = 172) ∧ of ≤ j ∧ j < of + M) → h2 x j = h x j)
theorem look_l {b a of : Nat} {lo x5 : Int} {t : Nat → Int} {h : yH} (hb : b + 8 ≤ 170) (hW : tW0 t) (ha : (a : Int) < t 6) (hof : of = 0 ∨ of = 64) (hlo : (lo = -1 ∧ x5 = -1) ∨ (0 ≤ lo ∧ lo < 6 ∧ x5 = yari 9 (yari 5 1 lo) (-1))) : ∀ (mm k n : Nat) (h1 : yH), (mm : Int) + k = t 0 * t 1 → mm + 9 ≤ n → cS b t h1 → cSp b h1 → cPc h1 → lkI t a lo of k h h1 →
    ∃ h2, xl_X0_lookFromCells n 27 [170, (b : Int), (a : Int), lo, (of : Int), x5, t (32 + 3 * a), (k : Int)] h1 = some (0, h2) ∧ lkI t a lo of (t 0 * t 1).toNat h h2 := by
  have Mb := M_b hW
  have w6 := hW.wd.2.2.2.2
  intro mm
  induction mm with
  | zero =>
    intro k n h1 e1 e2 hS hp hc I
    obtain ⟨n, rfl⟩ : ∃ n', n = n' + 1 := ⟨n - 1, by omega⟩
    refine ⟨h1, ?_, ?_⟩
    · rw [e_X0_lookFromCells_27, cells_e hS hW, xb_some, if_neg (by omega)]
    · rw [show (t 0 * t 1).toNat = k by omega]
      exact I
  | succ mm ih =>
    intro k n h1 e1 e2 hS hp hc I
    obtain ⟨n, rfl⟩ : ∃ n', n = n' + 1 := ⟨n - 1, by omega⟩
    have nb := nst_15 (t := t) (a := a) (fr := (k : Int)) hW
    have hb2 := hst_b (u := t) (fr := (k : Int)) (vo := t (32 + 3 * a)) (a := a) (t 6).toNat (by omega)
    have f1 : ∀ x j, ¬ (x = 171 ∧ j = of + k) → (zup h1 171 (of + k) (nst t a (k : Int) (t 5).toNat)) x j = h1 x j := fun x j w => zup_ne w
    have S1 : cS b t (zup h1 171 (of + k) (nst t a (k : Int) (t 5).toNat)) := hS.fr (fun x j w1 w2 => f1 x j (by omega))
    have p1 : cSp b (zup h1 171 (of + k) (nst t a (k : Int) (t 5).toNat)) := hp.fr (fun j _ => f1 b j (by omega))
    have ew : ∀ hh : yH, f_J6_bitCount_0f7a4 n [yari 7 (hst t (k : Int) (t (32 + 3 * a)) a (t 6).toNat) x5] hh = some (wvN t a lo (k : Int), hh) := fun hh => by
      unfold wvN
      rcases hlo with ⟨l1, l2⟩ | ⟨l1, l2, l3⟩
      · rw [l2, andm1 hb2, bc_e hb2, if_pos l1]
      · obtain ⟨w, ew⟩ : ∃ w : Nat, lo = (w : Int) := ⟨lo.toNat, by omega⟩
        rw [l3, ew, if_neg (by omega), Int.toNat_natCast]
        exact bc_e (clr_b hb2 (by omega)).1
    have f2 : ∀ x j, ¬ ((x = 171 ∨ x = 172) ∧ j = of + k) → (zup (zup h1 171 (of + k) (nst t a (k : Int) (t 5).toNat)) 172 (of + k) (wvN t a lo (k : Int))) x j = h1 x j := fun x j w => by rw [zup_ne (by omega), zup_ne (by omega)]
    obtain ⟨h2, g1, g2⟩ := ih (k + 1) n (zup (zup h1 171 (of + k) (nst t a (k : Int) (t 5).toNat)) 172 (of + k) (wvN t a lo (k : Int))) (by omega) (by omega) (hS.fr (fun x j w1 w2 => f2 x j (by omega))) (hp.fr (fun j _ => f2 b j (by omega))) (hc.fr (fun j w1 w2 => f2 170 j (by omega))) ⟨fun c hc2 => by
      by_cases q : c = k
      · rw [q, zup_ne (show ¬ (171 = 172 ∧ of + k = of + k) by omega), zup_at, zup_at]
        exact ⟨rfl, rfl⟩
      · rw [f2 _ _ (by omega), f2 _ _ (by omega)]
        exact I.1 c (by omega), fun x j w => by rw [f2 x j (by omega)]; exact I.2 x j (by omega)⟩
    refine ⟨h2, ?_, g2⟩
    have eo : ((of : Int) + (k : Int)).toNat = of + k := by omega
    rw [e_X0_lookFromCells_27, cells_e hS hW, xb_some, if_pos (by omega), xg_pos hc.1, xg_pos (by omega), near_e (by omega) hS hp hW ha (by omega), xb_some, xg_pos (by omega), xg_pos nb, eo, Int.toNat_natCast b, xg_pos p1.2.2.2.2.1, show (b : Int) + 5 = ((b + 5 : Nat) : Int) by omega, hearers_e (by omega) S1 hW (by omega), xb_some, xg_pos (by rw [f1 _ _ (by omega)]; exact hc.2.1), xg_pos (by omega), ew, xb_some, xg_pos (by omega), xg_pos (by omega), show (k : Int) + 1 = ((k + 1 : Nat) : Int) by omega]
    exact g1
theorem look_e {n b a of : Nat} {lo : Int} {t : Nat → Int} {h : yH} (hn : 80 ≤ n) (hb : b + 8 ≤ 170) (hW : tW0 t) (ha : (a : Int) < t 6) (hof : of = 0 ∨ of = 64) (hlo : lo = -1 ∨ (0 ≤ lo ∧ lo < 6)) (hS : cS b t h) (hp : cSp b h) (hc : cPc h) : ∃ h2, f_X0_lookFromCells n [170, (b : Int), (a : Int), lo, (of : Int)] h = some (0, h2) ∧ lkI t a lo of (t 0 * t 1).toNat h h2 := by
  have Mb := M_b hW
  have w6 := hW.wd.2.2.2.2
  have e6 : ((b : Int) + 6).toNat = b + 6 := by omega
  have v := (hS.2.2.2.2.2.2.2.2.2.2 a ha).2.1
  have I0 : lkI t a lo of 0 h h := ⟨fun c hc => by omega, fun _ _ _ => rfl⟩
  by_cases c : lo = -1
  · obtain ⟨h2, g1, g2⟩ := look_l (of := of) (x5 := -1) hb hW ha hof (Or.inl ⟨c, rfl⟩) (t 0 * t 1).toNat 0 n h (by omega) (by omega) hS hp hc I0
    refine ⟨h2, ?_, g2⟩
    rw [e_X0_lookFromCells, if_pos c, Int.toNat_natCast b, xg_pos hp.2.2.2.2.2.1, xg_pos (by omega), e6, Int.toNat_natCast a, v]
    exact g1
  · obtain ⟨h2, g1, g2⟩ := look_l (of := of) (x5 := yari 9 (yari 5 1 lo) (-1)) hb hW ha hof (Or.inr ⟨by omega, by omega, rfl⟩) (t 0 * t 1).toNat 0 n h (by omega) (by omega) hS hp hc I0
    refine ⟨h2, ?_, g2⟩
    rw [e_X0_lookFromCells, if_neg c, Int.toNat_natCast b, xg_pos hp.2.2.2.2.2.1, xg_pos (by omega), e6, Int.toNat_natCast a, v]
    exact g1
end
section
/-! berth: the best of all cells -/
def bsV (f : Nat → Int) : Nat → Int
  | 0 => -1
  | k + 1 => if bsV f k < f k then f k else bsV f k
def bsC (f : Nat → Int) (c0 : Int) : Nat → Int
  | 0 => c0
  | k + 1 => if bsV f k < f k then (k : Int) else bsC f c0 k
theorem bsC_i {f : Nat → Int} {c0 c1 : Int} (h : 0 ≤ f 0) : ∀ k, bsC f c0 (k + 1) = bsC f c1 (k + 1) := by
  intro k
  induction k with
  | zero =>
    show (if bsV f 0 < f 0 then ((0 : Nat) : Int) else bsC f c0 0) = (if bsV f 0 < f 0 then ((0 : Nat) : Int) else bsC f c1 0)
    have e : bsV f 0 < f 0 := by
      show (-1 : Int) < f 0
      omega
    rw [if_pos e, if_pos e]
  | succ k ih =>
    show (if bsV f (k + 1) < f (k + 1) then ((k + 1 : Nat) : Int) else bsC f c0 (k + 1)) = (if bsV f (k + 1) < f (k + 1) then ((k + 1 : Nat) : Int) else bsC f c1 (k + 1))
    rw [ih]
/-- fish that could be claimed from a cell -/
def fcV (t : Nat → Int) (a : Nat) (x : Int) : Int := if wit t a x (t (32 + 3 * a)) = true then fsV t (nst t a x (t 5).toNat) else 0
theorem fcV_b {t : Nat → Int} {a : Nat} {x : Int} (hW : tW0 t) : 0 ≤ fcV t a x ∧ fcV t a x ≤ 396 := by
  have := fsV_b (x := nst t a x (t 5).toNat) hW
  unfold fcV
  by_cases c : wit t a x (t (32 + 3 * a)) = true
  · rw [if_pos c]; exact this
  · rw [if_neg c]; omega
/-- what a search for the best cell leaves -/
def brE (f : Nat → Int) (c0 : Int) (k : Nat) (h h2 : yH) : Prop := (∀ x j, ¬ (x = 170 ∧ (j = 0 ∨ j = 2)) → h2 x j = h x j) ∧ h2 170 2 = bsV f k ∧ h2 170 0 = bsC f c0 k
theorem ber_l {b a : Nat} {c0 : Int} {t : Nat → Int} {h : yH} {f : Nat → Int} (hf : ∀ c : Nat, f c = fcV t a (c : Int)) (hb : b + 8 ≤ 170) (hW : tW0 t) (hS : cS b t h) (hc : cPc h) (h1 : ∀ c : Nat, (c : Int) < t 0 * t 1 → h 171 c = nst t a (c : Int) (t 5).toNat ∧ h 172 c = wvN t a (-1) (c : Int)) (h3 : ∀ j : Nat, j < 16 → h 173 j = fsV t (j : Int)) : ∀ (mm k n : Nat) (hh : yH), (mm : Int) + k = t 0 * t 1 → mm < n → brE f c0 k h hh →
    ∃ h2, xl_X0_findBerth n 28 [170, (b : Int), (a : Int), lawV t a 1, (k : Int)] hh = some (0, h2) ∧ brE f c0 (t 0 * t 1).toNat h h2 := by
  have Mb := M_b hW
  intro mm
  induction mm with
  | zero =>
    intro k n hh e1 e2 I
    obtain ⟨n, rfl⟩ : ∃ n', n = n' + 1 := ⟨n - 1, by omega⟩
    have S1 : cS b t hh := hS.fr (fun x j w1 w2 => I.1 x j (by omega))
    refine ⟨hh, ?_, ?_⟩
    · rw [e_X0_findBerth_28, cells_e S1 hW, xb_some, if_neg (by omega)]
    · rw [show (t 0 * t 1).toNat = k by omega]; exact I
  | succ mm ih =>
    intro k n hh e1 e2 I
    obtain ⟨n, rfl⟩ : ∃ n', n = n' + 1 := ⟨n - 1, by omega⟩
    obtain ⟨fr, v2, v0⟩ := id I
    have S1 : cS b t hh := hS.fr (fun x j w1 w2 => fr x j (by omega))
    have nb := nst_15 (t := t) (a := a) (fr := (k : Int)) hW
    obtain ⟨c1, c2⟩ := h1 k (by omega)
    have d2 : bsV f (k + 1) = if bsV f k < f k then f k else bsV f k := rfl
    have d0 : bsC f c0 (k + 1) = if bsV f k < f k then (k : Int) else bsC f c0 k := rfl
    have J : ∃ h2, xq_X0_findBerth_64 n (xl_X0_findBerth n) [170, (b : Int), (a : Int), lawV t a 1, (k : Int), f k] hh = some (0, h2) ∧ brE f c0 (t 0 * t 1).toNat h h2 := by
      by_cases c : bsV f k < f k
      · rw [if_pos c] at d2 d0
        obtain ⟨h2, g1, g2⟩ := ih (k + 1) n (zup (zup hh 170 2 (f k)) 170 0 (k : Int)) (by omega) (by omega) ⟨fun x j w => by rw [zup_ne (by omega), zup_ne (by omega)]; exact fr x j w, by rw [zup_ne (show ¬ (170 = 170 ∧ 2 = 0) by omega), zup_at, d2], by rw [zup_at, d0]⟩
        refine ⟨h2, ?_, g2⟩
        rw [e_X0_findBerth_64, v2, if_pos c, xg_pos (by omega), show (k : Int) + 1 = ((k + 1 : Nat) : Int) by omega]
        exact g1
      · rw [if_neg c] at d2 d0
        obtain ⟨h2, g1, g2⟩ := ih (k + 1) n hh (by omega) (by omega) ⟨fr, by rw [v2, d2], by rw [v0, d0]⟩
        refine ⟨h2, ?_, g2⟩
        rw [e_X0_findBerth_64, v2, if_neg c, xg_pos (by omega), show (k : Int) + 1 = ((k + 1 : Nat) : Int) by omega]
        exact g1
    obtain ⟨h2, J1, J2⟩ := J
    refine ⟨h2, ?_, J2⟩
    have ew : wvN t a (-1) (k : Int) = bcn (hst t (k : Int) (t (32 + 3 * a)) a (t 6).toNat) := congrArg bcn (if_pos rfl)
    have k172 : hh 172 k = bcn (hst t (k : Int) (t (32 + 3 * a)) a (t 6).toNat) := by rw [fr 172 k (by omega), c2, ew]
    have k171 : hh 171 k = nst t a (k : Int) (t 5).toNat := by rw [fr 171 k (by omega), c1]
    rw [e_X0_findBerth_28, cells_e S1 hW, xb_some, if_pos (by omega), xg_pos (by rw [fr 170 4 (by omega)]; exact hc.2.1), xg_pos (by omega), Int.toNat_natCast k, k172]
    by_cases c : bcn (hst t (k : Int) (t (32 + 3 * a)) a (t 6).toNat) < lawV t a 1
    · have e : f k = 0 := by
        rw [hf]
        exact if_neg (by rw [wit_iff]; omega)
      rw [e] at J1
      rw [if_pos c]
      exact J1
    · have e : f k = fsV t (nst t a (k : Int) (t 5).toNat) := by
        rw [hf]
        exact if_pos (by rw [wit_iff]; omega)
      have e3 := h3 (nst t a (k : Int) (t 5).toNat).toNat (by omega)
      rw [show (((nst t a (k : Int) (t 5).toNat).toNat : Nat) : Int) = nst t a (k : Int) (t 5).toNat by omega, ← fr 173 _ (by omega)] at e3
      rw [e] at J1
      rw [if_neg c, xg_pos (by rw [fr 170 5 (by omega)]; exact hc.2.2), xg_pos (by rw [fr 170 3 (by omega)]; exact hc.1), xg_pos (by omega), k171, xg_pos (by omega), e3]
      exact J1
theorem berC_e {n b a : Nat} {t : Nat → Int} {h : yH} {f : Nat → Int} (hf : ∀ c : Nat, f c = fcV t a (c : Int)) (hn : 200 ≤ n) (hb : b + 8 ≤ 170) (hW : tW0 t) (ha : (a : Int) < t 6) (hS : cS b t h) (hp : cSp b h) (hc : cPc h) : ∃ h2, f_X0_findBerth n [170, (b : Int), (a : Int)] h = some (0, h2) ∧ (∀ x j, x < 170 ∨ 174 ≤ x → h2 x j = h x j) ∧ cPc h2 ∧ h2 170 2 = bsV f (t 0 * t 1).toNat ∧ h2 170 0 = bsC f 0 (t 0 * t 1).toNat := by
  have Mb := M_b hW
  obtain ⟨hA, A1, A2, A3⟩ := aft_l (h := h) (by omega) hW 16 0 n h rfl (by omega) hS hp hc.2.2 (fun _ _ _ => rfl) (fun j hj => by omega)
  have SA : cS b t hA := hS.fr (fun x j w1 w2 => A2 x j (by omega))
  have pA : cSp b hA := hp.fr (fun j _ => A2 b j (by omega))
  have cA : cPc hA := hc.fr (fun j _ _ => A2 170 j (by omega))
  obtain ⟨hB, B1, B2, B3⟩ := look_e (n := n) (lo := -1) (of := 0) (by omega) hb hW ha (Or.inl rfl) (Or.inl rfl) SA pA cA
  have SB : cS b t hB := SA.fr (fun x j w1 w2 => B3 x j (by omega))
  have pB : cSp b hB := pA.fr (fun j _ => B3 b j (by omega))
  have cB : cPc hB := cA.fr (fun j _ _ => B3 170 j (by omega))
  have lw := lawC_e (n := n) (w := 1) SB pB hW ha (by decide)
  have u : ∀ x j, ¬ (x = 170 ∧ j = 2) → (zup hB 170 2 (-1)) x j = hB x j := fun x j w => zup_ne w
  obtain ⟨h2, g1, g2, g3, g4⟩ := ber_l (c0 := hB 170 0) (h := zup hB 170 2 (-1)) hf hb hW (SB.fr (fun x j w1 w2 => u x j (by omega))) (cB.fr (fun j w1 w2 => u 170 j (by omega))) (fun c q => by
    obtain ⟨q1, q2⟩ := B2 c (by omega)
    rw [Nat.zero_add] at q1 q2
    rw [u 171 c (by omega), u 172 c (by omega)]
    exact ⟨q1, q2⟩) (fun j hj => by rw [u 173 j (by omega), B3 173 j (by omega)]; exact A3 j hj) (t 0 * t 1).toNat 0 n (zup hB 170 2 (-1)) (by omega) (by omega) ⟨fun _ _ _ => rfl, zup_at _ _ _ _, u 170 0 (by omega)⟩
  have f0 : 0 ≤ f 0 := by
    rw [hf]
    exact (fcV_b hW).1
  have bi := bsC_i (c0 := hB 170 0) (c1 := 0) f0 ((t 0 * t 1).toNat - 1)
  rw [show (t 0 * t 1).toNat - 1 + 1 = (t 0 * t 1).toNat by omega] at bi
  refine ⟨h2, ?_, fun x j w => by rw [g2 x j (by omega), u x j (by omega), B3 x j (by omega), A2 x j (by omega)], cB.fr (fun j w1 w2 => by rw [g2 170 j (by omega), u 170 j (by omega)]), g3, g4.trans bi⟩
  rw [e_X0_findBerth, e_X0_addFishTogether]
  rw [show ((0 : Nat) : Int) = 0 from rfl] at A1 B1 g1
  rw [A1, xb_some, B1, xb_some]
  rw [show ((1 : Nat) : Int) = 1 from rfl] at lw
  rw [lw, xb_some]
  exact g1
end
section
/-! berth: the reference -/
theorem fsR_l {s : Nat} {x : Int} {t u : Nat → Int} {g : yH} (T : tst s t u g) (hW : tW0 t) (hx : 0 ≤ x ∧ x ≤ 63) : ∀ (mm k n : Nat), mm + k = (t 5).toNat → mm < n → xl_X12_fishOf n 4 [35, x, fsT t x k, (k : Int)] g = some (fsV t x, g) := by
  have w5 := hW.sl
  obtain ⟨H, h34, h35, hs⟩ := T
  intro mm
  induction mm with
  | zero =>
    intro k n e1 e2
    obtain ⟨n, rfl⟩ : ∃ n', n = n' + 1 := ⟨n - 1, by omega⟩
    unfold fsV
    rw [e_X12_fishOf_4, h35, if_neg (by omega), show (t 5).toNat = k by omega]
  | succ mm ih =>
    intro k n e1 e2
    obtain ⟨n, rfl⟩ : ∃ n', n = n' + 1 := ⟨n - 1, by omega⟩
    have nx := ih (k + 1) n (by omega) (by omega)
    have st : fsT t x (k + 1) = fsT t x k + (if bt x k = true then t (20 + 3 * k) else 0) := rfl
    have b1 := fsT_b (x := x) hW k (by omega)
    have s := (hW.sh (k := k) (by omega)).2.1
    have e14 : g 14 k = t (20 + 3 * k) := (hs k (by omega)).2.1.trans (if_pos (by omega))
    rw [e_X12_fishOf_4, h35, if_pos (by omega), isIn_e hx (by omega), xb_some]
    by_cases c : bt x k = true
    · have e : x / 2 ^ k % 2 = 1 := decide_eq_true_iff.mp c
      rw [st, if_pos c] at nx
      rw [e, if_neg (by decide), xg_pos (H.1.2.2.2.p (j := 37) (k := 14) (by decide)), xg_pos (by omega), Int.toNat_natCast k, e14, xg_pos (by omega), xg_pos (by omega), show (k : Int) + 1 = ((k + 1 : Nat) : Int) by omega]
      exact nx
    · have e : x / 2 ^ k % 2 = 0 := by
        have e1 : ¬ (x / 2 ^ k % 2 = 1) := fun w => c (decide_eq_true_iff.mpr w)
        generalize x / 2 ^ k = z at *
        omega
      rw [st, if_neg c] at nx
      rw [e, if_pos rfl, xg_pos (by omega), xg_pos (by omega), show (k : Int) + 1 = ((k + 1 : Nat) : Int) by omega]
      exact nx
theorem fsR_e {n s : Nat} {x : Int} {t u : Nat → Int} {g : yH} (hn : 6 ≤ n) (T : tst s t u g) (hW : tW0 t) (hx : 0 ≤ x ∧ x ≤ 63) : f_X12_fishOf n [35, x] g = some (fsV t x, g) := by
  have w5 := hW.sl
  rw [e_X12_fishOf]
  exact fsR_l T hW hx (t 5).toNat 0 n rfl (by omega)
theorem orZF : ∀ x : Fin 64, yari 8 (x.val : Int) 0 = (x.val : Int) := by decide +kernel
theorem orZ {x : Int} (hx : 0 ≤ x ∧ x ≤ 63) : yari 8 x 0 = x := by
  have := orZF ⟨x.toNat, by omega⟩
  simp only at this
  rw [show ((x.toNat : Nat) : Int) = x by omega] at this
  exact this
/-- the shoals a boat could claim where it stands, if heard by enough -/
def swV (t : Nat → Int) (b : Nat) (x : Int) (w : Bool) (k : Nat) : Int := if w = true then nst t b x k else 0
theorem swV_b {t : Nat → Int} {b : Nat} {x : Int} {w : Bool} {k : Nat} (hk : k ≤ 6) : 0 ≤ swV t b x w k ∧ swV t b x w k ≤ 63 := by
  unfold swV
  cases w with
  | false => rw [if_neg (by decide)]; exact ⟨by decide, by decide⟩
  | true => rw [if_pos rfl]; exact (nst_b k hk).1
theorem swV_s {t : Nat → Int} {b : Nat} {x : Int} {w : Bool} {k : Nat} (hk : k < 6) : swV t b x w (k + 1) = if (nr t b x (t (19 + 3 * k)) && w) = true then yari 8 (swV t b x w k) (yari 5 1 (k : Int)) else yari 8 (swV t b x w k) 0 := by
  have b0 := swV_b (t := t) (b := b) (x := x) (w := w) (k := k) (by omega)
  rw [orZ b0]
  unfold swV
  cases w with
  | false =>
    rw [Bool.and_false]
    rfl
  | true => rw [if_pos rfl, if_pos rfl, Bool.and_true]; rfl
theorem sfR_l {s b : Nat} {x : Int} {w : Bool} {t u : Nat → Int} {g : yH} (T : tst s t u g) (hWt : tW0 t) (hW : tW0 u) (hb : (b : Int) < u 6) (hx : 0 ≤ x ∧ x ≤ 63) (gx : g 10 b = x) (hu : ∀ k : Nat, cld t u b x (t (19 + 3 * k)) = (nr t b x (t (19 + 3 * k)) && w)) : ∀ (mm k n : Nat), mm + k = (t 5).toNat → mm + 18 ≤ n → xl_X12_shoalsFrom n 4 [35, (b : Int), swV t b x w k, (k : Int)] g = some (swV t b x w (t 5).toNat, g) := by
  have w5 := hWt.sl
  have w6 := hW.wd.2.2.2.2
  intro mm
  induction mm with
  | zero =>
    intro k n e1 e2
    obtain ⟨n, rfl⟩ : ∃ n', n = n' + 1 := ⟨n - 1, by omega⟩
    rw [e_X12_shoalsFrom_4, T.2.2.1, if_neg (by omega), show (t 5).toNat = k by omega]
  | succ mm ih =>
    intro k n e1 e2
    obtain ⟨n, rfl⟩ : ∃ n', n = n' + 1 := ⟨n - 1, by omega⟩
    have nx := ih (k + 1) n (by omega) (by omega)
    have e13 : g 13 k = t (19 + 3 * k) := (T.2.2.2 k (by omega)).1.trans (if_pos (by omega))
    have cf := could_e (n := n) (x := x) (by omega) T hWt hW hb (show k < 6 by omega) hx e13 (hWt.sh (k := k) (by omega)).1
    rw [hu k] at cf
    rw [swV_s (by omega)] at nx
    rw [e_X12_shoalsFrom_4, T.2.2.1, if_pos (by omega), xg_pos (T.1.1.2.2.2.p (j := 30) (k := 10) (by decide)), xg_pos (by omega), Int.toNat_natCast b, gx, cf, xb_some]
    by_cases c : (nr t b x (t (19 + 3 * k)) && w) = true
    · rw [if_pos c] at nx
      rw [if_pos c, if_neg (by decide), xg_pos (by omega), show (k : Int) + 1 = ((k + 1 : Nat) : Int) by omega]
      exact nx
    · rw [if_neg c] at nx
      rw [if_neg c, if_pos rfl, xg_pos (by omega), show (k : Int) + 1 = ((k + 1 : Nat) : Int) by omega]
      exact nx
theorem sfR_e {n s b : Nat} {x : Int} {w : Bool} {t u : Nat → Int} {g : yH} (hn : 24 ≤ n) (T : tst s t u g) (hWt : tW0 t) (hW : tW0 u) (hb : (b : Int) < u 6) (hx : 0 ≤ x ∧ x ≤ 63) (gx : g 10 b = x) (hu : ∀ k : Nat, cld t u b x (t (19 + 3 * k)) = (nr t b x (t (19 + 3 * k)) && w)) : f_X12_shoalsFrom n [35, (b : Int)] g = some (swV t b x w (t 5).toNat, g) := by
  have w5 := hWt.sl
  have e0 : swV t b x w 0 = 0 := by
    unfold swV
    cases w with
    | false => exact if_neg (by decide)
    | true => exact if_pos rfl
  have l := sfR_l T hWt hW hb hx gx hu (t 5).toNat 0 n (by omega) (by omega)
  rw [e0] at l
  rw [e_X12_shoalsFrom]
  exact l
theorem cld_c {t : Nat → Int} {a : Nat} {x p : Int} (hW : tW0 t) (ha : (a : Int) < t 6) : cld t (tU t (31 + 3 * a) x) a x p = (nr t a x p && wit t a x (t (32 + 3 * a))) := by
  have w6 := hW.wd.2.2.2.2
  unfold cld nr wit
  rw [tU_ne (show 0 ≠ 31 + 3 * a by omega), tU_ne (show 2 ≠ 31 + 3 * a by omega), tU_ne (show 3 ≠ 31 + 3 * a by omega), tU_ne (show 6 ≠ 31 + 3 * a by omega), tU_ne (show 32 + 3 * a ≠ 31 + 3 * a by omega), hst_c (u := t) (u2 := tU t (31 + 3 * a) x) (tU_ne (by omega)) (tU_ne (by omega)) (tU_ne (by omega)) (tU_ne (by omega)) (fun i _ q => tU_ne (by omega)) _ (by omega)]
theorem berR_l {s a : Nat} {x1 x3 : Int} {t : Nat → Int} {g : yH} {f : Nat → Int} (hf : ∀ c : Nat, f c = fcV t a (c : Int)) (T : tst s t t g) (hW : tW0 t) (ha : (a : Int) < t 6) : ∀ (mm k n : Nat) (y : Int), (mm : Int) + k = t 0 * t 1 → mm + 30 ≤ n →
    yR (xl_X12_berth n 32 [35, x1, (a : Int), x3, bsC f 0 k, bsV f k, (k : Int)] (zup g 10 a y)) (fun r g2 => r = (if x3 = 0 then bsC f 0 (t 0 * t 1).toNat else bsV f (t 0 * t 1).toNat) ∧ ∀ i j, i ≠ 10 → g2 i j = g i j) := by
  have Mb := M_b hW
  have w6 := hW.wd.2.2.2.2
  have w5 := hW.sl
  have h24 : g 35 24 = t 0 := T.1.2.2.1
  have h25 : g 35 25 = t 1 := T.1.2.2.2.1
  intro mm
  induction mm with
  | zero =>
    intro k n y e1 e2
    obtain ⟨n, rfl⟩ : ∃ n', n = n' + 1 := ⟨n - 1, by omega⟩
    rw [e_X12_berth_32, zup_ne (show ¬ (35 = 10 ∧ 24 = a) by omega), zup_ne (show ¬ (35 = 10 ∧ 25 = a) by omega), h24, h25, xg_pos (by omega), if_neg (by omega), show (t 0 * t 1).toNat = k by omega]
    by_cases c : x3 = 0
    · rw [if_pos c, if_pos c]
      exact yR.s ⟨rfl, fun i j w => zup_ne (by omega)⟩
    · rw [if_neg c, if_neg c]
      exact yR.s ⟨rfl, fun i j w => zup_ne (by omega)⟩
  | succ mm ih =>
    intro k n y e1 e2
    obtain ⟨n, rfl⟩ : ∃ n', n = n' + 1 := ⟨n - 1, by omega⟩
    have nx := ih (k + 1) n (k : Int) (by omega) (by omega)
    have hx : 0 ≤ (k : Int) ∧ (k : Int) ≤ 63 := by omega
    have TV : tst s t (tU t (31 + 3 * a) (k : Int)) (zup g 10 a (k : Int)) := T.up (Or.inl rfl) (T.1.cell (by omega))
    have WV : tW0 (tU t (31 + 3 * a) (k : Int)) := tU_W hW ⟨a, by omega, Or.inl ⟨rfl, hx⟩⟩
    have h6 : (a : Int) < tU t (31 + 3 * a) (k : Int) 6 := by rw [tU_ne (by omega)]; exact ha
    have sf := sfR_e (n := n) (by omega) TV hW WV h6 hx (zup_at _ _ _ _) (fun i => cld_c hW ha)
    have sb := swV_b (t := t) (b := a) (x := (k : Int)) (w := wit t a (k : Int) (t (32 + 3 * a))) (k := (t 5).toNat) (by omega)
    have fo := fsR_e (n := n) (by omega) TV hW sb
    have fe : fsV t (swV t a (k : Int) (wit t a (k : Int) (t (32 + 3 * a))) (t 5).toNat) = f k := by
      rw [hf]
      unfold swV fcV
      cases wit t a (k : Int) (t (32 + 3 * a)) with
      | false => rw [if_neg (by decide), if_neg (by decide), fsV_0 hW]
      | true => rw [if_pos rfl, if_pos rfl]
    rw [fe] at fo
    have d2 : bsV f (k + 1) = if bsV f k < f k then f k else bsV f k := rfl
    have d0 : bsC f 0 (k + 1) = if bsV f k < f k then (k : Int) else bsC f 0 k := rfl
    rw [e_X12_berth_32, zup_ne (show ¬ (35 = 10 ∧ 24 = a) by omega), zup_ne (show ¬ (35 = 10 ∧ 25 = a) by omega), h24, h25, xg_pos (by omega), if_pos (by omega), zup_ne (show ¬ (35 = 10 ∧ 30 = a) by omega), xg_pos (T.1.1.2.2.2.p (j := 30) (k := 10) (by decide)), xg_pos (by omega), xg_pos hx, Int.toNat_natCast a, zup_up, sf, xb_some, fo, xb_some]
    by_cases c : bsV f k < f k
    · rw [if_pos c] at d2 d0
      rw [d2, d0] at nx
      rw [if_pos c, gr_e, xb_some, Int.max_eq_right (by omega), xg_pos (by omega), show (k : Int) + 1 = ((k + 1 : Nat) : Int) by omega]
      exact nx
    · rw [if_neg c] at d2 d0
      rw [d2, d0] at nx
      rw [if_neg c, gr_e, xb_some, Int.max_eq_left (by omega), xg_pos (by omega), show (k : Int) + 1 = ((k + 1 : Nat) : Int) by omega]
      exact nx
theorem berR_e {m s : Nat} {x3 y : Int} {t : Nat → Int} {g : yH} {f : Nat → Int} (hf : ∀ a c : Nat, x3 = (a : Int) → f c = fcV t a (c : Int)) (hn : 100 ≤ m) (hq : rQ g) (h4 : ∀ j, j < 12 → 0 ≤ g 4 j ∧ g 4 j ≤ 2) (hs : (s : Int) < g 4 0) (ht : ∀ j, j < 50 → g 5 (50 * s + j) = t j) (hW : tW0 t) : yR (f_X12_berth m [35, (s : Int), x3, y] g) (fun v g2 => v = (if 0 ≤ x3 ∧ x3 < t 6 then (if y = 0 then bsC f 0 (t 0 * t 1).toNat else bsV f (t 0 * t 1).toNat) else -1) ∧ ∃ g1, lyR s t (zup g 35 0 0) g1 ∧ ∀ a j, a ≠ 10 → g2 a j = g1 a j) := by
  have Mb := M_b hW
  refine yR.e e_X12_berth ?_
  refine yR.b (layTold_e (by omega) (c0_q hq) (c0_4 h4) (by rw [zup_ne (by omega)]; exact hs) (fun j hj => by rw [zup_ne (by omega)]; exact ht j hj) hW) (fun v g1 ⟨rv, H⟩ => ?_)
  subst rv
  refine yR.f (by decide) ?_
  rw [isBoat_e H.1.1.2.2.2.2.2.2.1 hW, xb_some]
  by_cases c : 0 ≤ x3 ∧ x3 < t 6
  · obtain ⟨a, rfl⟩ : ∃ a : Nat, x3 = (a : Int) := ⟨x3.toNat, by omega⟩
    rw [if_pos c, if_pos c, if_neg (by decide)]
    have l := berR_l (x1 := (s : Int)) (x3 := y) (fun k => hf a k rfl) H.1 hW c.2 (t 0 * t 1).toNat 0 m (g1 10 a) (by omega) (by omega)
    have e : zup g1 10 a (g1 10 a) = g1 := by
      funext i j
      by_cases w : i = 10 ∧ j = a
      · rw [w.1, w.2, zup_at]
      · rw [zup_ne w]
    rw [e] at l
    exact l.m (fun r g2 ⟨r1, r2⟩ => ⟨r1, g1, H, r2⟩)
  · rw [if_neg c, if_neg c, if_pos rfl]
    exact yR.s ⟨rfl, g1, H, fun _ _ _ => rfl⟩
/-- behind a question of a choice -/
def chK (h g h2 g2 : yH) : Prop := RR True h2 g2 ∧ cPc h2 ∧ (∀ a j, a < 170 ∨ 174 ≤ a → h2 a j = h a j) ∧ k7 g g2
theorem chK.n {h g : yH} (R : RR True h g) (hL : lnI h) (hm : h 4 1 ≤ 600) (hc : cPc h) : chK h g h (zup g 35 0 0) := ⟨R.c0 hL hm, hc, fun _ _ _ => rfl, k7.c0⟩
theorem chK.l {s : Nat} {t : Nat → Int} {h h2 g g1 g2 : yH} (R : RR True h g) (hL : lnI h) (hm : h 4 1 ≤ 600) (H : lyR s t (zup g 35 0 0) g1) (e : ∀ a j, a ≠ 10 → a ≠ 26 → a ≠ 27 → a ≠ 28 → g2 a j = g1 a j) (c2 : cPc h2) (e2 : ∀ a j, a < 170 ∨ 174 ≤ a → h2 a j = h a j) : chK h g h2 g2 := by
  have R1 : RR True h g1 := (R.c0 hL hm).ly hL hm H
  have q2 : rQ g2 := H.1.1.1.2.2.2.fr (fun j _ => e _ _ (by omega) (by omega) (by omega) (by omega))
  refine ⟨(R1.gf hL hm q2.P (fun a j w => e a j (by omega) (by omega) (by omega) (by omega))).hf hL hm (fun a j w => e2 a j (by omega)), c2, e2, fun a j w1 w2 => by rw [e a j (by omega) (by omega) (by omega) (by omega), H.k7 a j w1 w2]⟩
theorem RR_berth {m n : Nat} {x y w : Int} {h g : yH} (hn : 200 ≤ n) (hm2 : 100 ≤ m) (R : RR True h g) (h15 : h 1 5 = 170) (hc : cPc h) (hL : lnI h) (hm : h 4 1 ≤ 600) (hq : rQ g) (h4 : ∀ j, j < 12 → 0 ≤ g 4 j ∧ g 4 j ≤ 2) : ∃ v h2 g2, f_X11_berth n [1, x, y, w] h = some (v, h2) ∧ f_X12_berth m [35, x, y, w] g = some (v, g2) ∧ chK h g h2 g2 := by
  have hP := R.1
  have n0 := R.n6 (j := 0) (by decide)
  have b0 := h4 0 (by decide)
  have p3 : h 1 0 = 3 := hP.p (by decide)
  by_cases c : 0 ≤ x ∧ x < g 4 0
  · obtain ⟨s, rfl⟩ : ∃ s : Nat, x = (s : Int) := ⟨x.toNat, by omega⟩
    obtain ⟨t, hS, hp, ht, hW⟩ := R.sea (s := s) (by omega) c.2
    obtain ⟨v, g2, e2, rv, g1, H, fr⟩ := berR_e (m := m) (x3 := y) (y := w) (f := fun k => fcV t y.toNat (k : Int)) (fun a k ea => by rw [ea, Int.toNat_natCast]) hm2 hq h4 c.2 ht hW
    by_cases c2 : 0 ≤ y ∧ y < t 6
    · obtain ⟨a, rfl⟩ : ∃ a : Nat, y = (a : Int) := ⟨y.toNat, by omega⟩
      obtain ⟨h2, f1, f2, f3, f4, f5⟩ := berC_e (n := n) (f := fun k => fcV t ((a : Int)).toNat (k : Int)) (fun k => by rw [Int.toNat_natCast]) hn (by omega) hW c2.2 hS hp hc
      refine ⟨v, h2, g2, ?_, e2, chK.l R hL hm H (fun i j w1 _ _ _ => fr i j w1) f3 f2⟩
      have k15 : h2 1 5 = 170 := (f2 _ _ (by omega)).trans h15
      rw [e_X11_berth, xg_pos p3, findSea_e hP (by omega), xb_some, if_pos (show 0 ≤ (s : Int) ∧ (s : Int) < h 6 0 by omega), if_neg (by omega), xg_pos (by omega), show 20 + 10 * (s : Int) = ((20 + 10 * s : Nat) : Int) by omega, hasBoat_e hS, xb_some, if_pos c2, if_neg (by decide), xg_pos h15, xg_pos (by omega), f1, xb_some, rv, if_pos c2]
      by_cases cw : w = 0
      · rw [if_pos cw, if_pos cw, xg_pos k15, f5]
      · rw [if_neg cw, if_neg cw, xg_pos k15, f4]
    · refine ⟨v, h, g2, ?_, e2, chK.l R hL hm H (fun i j w1 _ _ _ => fr i j w1) hc (fun _ _ _ => rfl)⟩
      rw [e_X11_berth, xg_pos p3, findSea_e hP (by omega), xb_some, if_pos (show 0 ≤ (s : Int) ∧ (s : Int) < h 6 0 by omega), if_neg (by omega), xg_pos (by omega), show 20 + 10 * (s : Int) = ((20 + 10 * s : Nat) : Int) by omega, hasBoat_e hS, xb_some, if_neg c2, if_pos rfl, rv, if_neg c2]
  · refine ⟨-1, h, zup g 35 0 0, ?_, ?_, chK.n R hL hm hc⟩
    · rw [e_X11_berth, xg_pos p3, findSea_e hP (by omega), xb_some, if_neg (show ¬ (0 ≤ x ∧ x < h 6 0) by omega), if_pos (by decide)]
    · rw [e_X12_berth, layTold_n (c0_q hq) (c0_4 h4) (by rw [zup_ne (by omega)]; exact c), xb_some, if_pos rfl]
end
section
/-! two boats together: who hears whom -/
theorem bcn_06 (x : Int) : 0 ≤ bcn x ∧ bcn x ≤ 6 := by
  unfold bcn
  omega
theorem bcn_cF : ∀ x : Fin 64, ∀ o : Fin 6, bcn (x.val : Int) = bcn (clr (x.val : Int) o.val) + (if bt (x.val : Int) o.val = true then 1 else 0) := by decide +kernel
theorem bcn_c {x : Int} {o : Nat} (hx : 0 ≤ x ∧ x ≤ 63) (ho : o < 6) : bcn x = bcn (clr x o) + (if bt x o = true then 1 else 0) := by
  have := bcn_cF ⟨x.toNat, by omega⟩ ⟨o, ho⟩
  simp only at this
  rw [show ((x.toNat : Nat) : Int) = x by omega] at this
  exact this
theorem clrXF : ∀ x : Fin 64, ∀ k o : Fin 6, clr (yari 8 (x.val : Int) (yari 5 1 (k.val : Int))) o.val = if k.val = o.val then clr (x.val : Int) o.val else yari 8 (clr (x.val : Int) o.val) (yari 5 1 (k.val : Int)) := by decide +kernel
theorem clrX {x : Int} {k o : Nat} (hx : 0 ≤ x ∧ x ≤ 63) (hk : k < 6) (ho : o < 6) : clr (yari 8 x (yari 5 1 (k : Int))) o = if k = o then clr x o else yari 8 (clr x o) (yari 5 1 (k : Int)) := by
  have := clrXF ⟨x.toNat, by omega⟩ ⟨k, hk⟩ ⟨o, ho⟩
  simp only at this
  rw [show ((x.toNat : Nat) : Int) = x by omega] at this
  exact this
theorem hst_o {t u : Nat → Int} {fr vo : Int} {a o : Nat} (e : ∀ i, i < 6 → i ≠ o → hq u fr vo a i = hq t fr vo a i) (ho : o < 6) : ∀ k, k ≤ 6 → clr (hst u fr vo a k) o = clr (hst t fr vo a k) o ∧ bt (hst u fr vo a k) o = (decide (o < k) && hq u fr vo a o) := by
  intro k
  induction k with
  | zero =>
    intro _
    refine ⟨rfl, ?_⟩
    rw [decide_eq_false (show ¬ (o < 0) by omega), Bool.false_and]
    have z : ∀ c : Fin 6, bt 0 c.val = false := by decide +kernel
    exact z ⟨o, ho⟩
  | succ k ih =>
    intro hk
    obtain ⟨i1, i2⟩ := ih (by omega)
    have A : ∀ v : Nat → Int, clr (hst v fr vo a (k + 1)) o = if k ≠ o ∧ hq v fr vo a k = true then yari 8 (clr (hst v fr vo a k) o) (yari 5 1 (k : Int)) else clr (hst v fr vo a k) o := fun v => by
      have cv := clrX (hst_b (u := v) (fr := fr) (vo := vo) (a := a) k (by omega)) (show k < 6 by omega) ho
      by_cases eh : hq v fr vo a k = true
      · rw [hst_t eh, cv]
        by_cases q : k = o
        · rw [if_pos q, if_neg (by exact fun w => w.1 q)]
        · rw [if_neg q, if_pos (by exact ⟨q, eh⟩)]
      · rw [hst_f (by cases e3 : hq v fr vo a k with
          | false => rfl
          | true => exact absurd e3 eh), if_neg (by exact fun w => eh w.2)]
    constructor
    · rw [A u, A t, i1]
      by_cases q : k = o
      · rw [if_neg (by exact fun w => w.1 q), if_neg (by exact fun w => w.1 q)]
      · rw [e k (by omega) q]
    · have bu := hst_b (u := u) (fr := fr) (vo := vo) (a := a) k (by omega)
      have ob := (or_b bu (shF ⟨k, by omega⟩).1).2.1 o ho
      have s4 := (shF ⟨k, by omega⟩).2.2.2 ⟨o, ho⟩
      simp only at ob s4
      rw [s4, i2] at ob
      have dk : o ≠ k → decide (o < k + 1) = decide (o < k) := fun q => by
        by_cases w : o < k
        · rw [decide_eq_true w, decide_eq_true (show o < k + 1 by omega)]
        · rw [decide_eq_false w, decide_eq_false (show ¬ (o < k + 1) by omega)]
      by_cases eh : hq u fr vo a k = true
      · rw [hst_t eh, ob]
        by_cases q : o = k
        · subst q
          rw [eh, decide_eq_true (show o < o + 1 by omega), decide_eq_true (show o = o from rfl), Bool.or_true]
          rfl
        · rw [dk q, decide_eq_false q, Bool.or_false]
      · have eh2 : hq u fr vo a k = false := by
          cases e3 : hq u fr vo a k with
          | false => rfl
          | true => exact absurd e3 eh
        rw [hst_f eh2, i2]
        by_cases q : o = k
        · subst q
          rw [eh2, Bool.and_false, Bool.and_false]
        · rw [dk q]
/-- the other one hears -/
def hrO (t : Nat → Int) (a o : Nat) (x y : Int) : Bool := decide (yari 7 (yari 6 (t 49) (o : Int)) 1 = 0) && decide (cst (t 0) (t 2) (t 3) x y ≤ t (32 + 3 * a))
theorem wv_o {t u : Nat → Int} {a o : Nat} {x y : Int} (hW : tW0 t) (ha6 : (a : Int) < t 6) (ho : (o : Int) < t 6) (hao : o ≠ a) (e : ∀ i, i ≠ 31 + 3 * a → i ≠ 31 + 3 * o → u i = t i) (ey : u (31 + 3 * o) = y) : bcn (hst u x (t (32 + 3 * a)) a (t 6).toNat) = wvN t a (o : Int) x + (if hrO t a o x y = true then 1 else 0) := by
  have w6 := hW.wd.2.2.2.2
  have ha := hst_b (u := u) (fr := x) (vo := t (32 + 3 * a)) (a := a) (t 6).toNat (by omega)
  obtain ⟨o1, o2⟩ := hst_o (t := t) (u := u) (fr := x) (vo := t (32 + 3 * a)) (a := a) (o := o) (fun i hi hio => by
    unfold hq
    by_cases q : i = a
    · rw [decide_eq_false (fun w => w q), Bool.false_and, Bool.false_and]
    · rw [e 49 (by omega) (by omega), e 0 (by omega) (by omega), e 2 (by omega) (by omega), e 3 (by omega) (by omega), e (31 + 3 * i) (by omega) (by omega)]) (by omega) (t 6).toNat (by omega)
  have eq : hq u x (t (32 + 3 * a)) a o = hrO t a o x y := by
    unfold hq hrO
    rw [decide_eq_true hao, Bool.true_and, e 49 (by omega) (by omega), e 0 (by omega) (by omega), e 2 (by omega) (by omega), e 3 (by omega) (by omega), ey]
  rw [decide_eq_true (show o < (t 6).toNat by omega), Bool.true_and, eq] at o2
  have ew : wvN t a (o : Int) x = bcn (clr (hst t x (t (32 + 3 * a)) a (t 6).toNat) o) := by
    unfold wvN
    rw [if_neg (by omega), Int.toNat_natCast]
  rw [bcn_c ha (show o < 6 by omega), o1, o2, ew]
def pbV (t : Nat → Int) (a o : Nat) (x y : Int) : Int := swV t a x (decide (lawV t a 1 ≤ wvN t a (o : Int) x + (if hrO t a o x y = true then 1 else 0))) (t 5).toNat
theorem pbV_b {t : Nat → Int} {a o : Nat} {x y : Int} (hW : tW0 t) : 0 ≤ pbV t a o x y ∧ pbV t a o x y ≤ 15 := by
  have n := nst_15 (t := t) (a := a) (fr := x) hW
  unfold pbV swV
  cases decide (lawV t a 1 ≤ wvN t a (o : Int) x + (if hrO t a o x y = true then 1 else 0)) with
  | false => rw [if_neg (by decide)]; exact ⟨by decide, by decide⟩
  | true => rw [if_pos rfl]; exact n
theorem or15 {x y : Int} (hx : 0 ≤ x ∧ x ≤ 15) (hy : 0 ≤ y ∧ y ≤ 15) : 0 ≤ yari 8 x y ∧ yari 8 x y ≤ 15 := by
  obtain ⟨o1, -, -, o4⟩ := or_b (x := x) (y := y) (by omega) (by omega)
  have := o4 4 (by decide) (by rw [show (2 : Int) ^ 4 = 16 from rfl]; omega) (by rw [show (2 : Int) ^ 4 = 16 from rfl]; omega)
  rw [show (2 : Int) ^ 4 = 16 from rfl] at this
  omega
theorem cbC_e {n b a o of x y : Nat} {t : Nat → Int} {h : yH} (hS : cS b t h) (hp : cSp b h) (hc : cPc h) (hW : tW0 t) (ha : (a : Int) < t 6) (hx : x < 64) (hy : y < 64) (hof : of = 0 ∨ of = 64) (k1 : h 171 (of + x) = nst t a (x : Int) (t 5).toNat) (k2 : h 172 (of + x) = wvN t a (o : Int) (x : Int)) : f_X0_claimableBeside n [170, (b : Int), (a : Int), (o : Int), (x : Int), (y : Int), (of : Int)] h = some (pbV t a o (x : Int) (y : Int), h) := by
  have w6 := hW.wd.2.2.2.2
  have d := hW.wd
  obtain ⟨a0, a1, a2, a3, a4, a5, a6, a7, a8, a9, a10⟩ := id hS
  have lw := lawC_e (n := n) (w := 1) hS hp hW ha (by decide)
  rw [show ((1 : Nat) : Int) = 1 from rfl] at lw
  have eo : ((of : Int) + (x : Int)).toNat = of + x := by omega
  have e6 : ((b : Int) + 6).toNat = b + 6 := by omega
  have wb := bcn_06
  have wv : 0 ≤ wvN t a (o : Int) (x : Int) ∧ wvN t a (o : Int) (x : Int) ≤ 6 := bcn_06 _
  have J : ∀ z w : Int, xq_X0_claimableBeside_55 n [170, (b : Int), (a : Int), (o : Int), (x : Int), (y : Int), (of : Int), z, w] h = some (swV t a (x : Int) (decide (lawV t a 1 ≤ z)) (t 5).toNat, h) := fun z w => by
    unfold swV
    rw [e_X0_claimableBeside_55, lw, xb_some]
    by_cases c : z < lawV t a 1
    · rw [if_pos c, decide_eq_false (show ¬ (lawV t a 1 ≤ z) by omega), if_neg (by decide)]
    · rw [if_neg c, decide_eq_true (show lawV t a 1 ≤ z by omega), if_pos rfl, xg_pos hc.1, xg_pos (by omega), xg_pos (by omega), eo, k1]
  rw [e_X0_claimableBeside, xg_pos hc.2.1, xg_pos (by omega), xg_pos (by omega), Int.toNat_natCast b, a7, eo, k2]
  unfold pbV hrO
  by_cases c : yari 7 (yari 6 (t 49) (o : Int)) 1 = 0
  · rw [if_pos c, cost_e a0 a2 a3 d.1 d.2.2.2.1 (by omega) (by omega), xb_some, xg_pos hp.2.2.2.2.2.1, xg_pos (by omega), e6, Int.toNat_natCast a, (a10 a ha).2.1, decide_eq_true c, Bool.true_and]
    by_cases c2 : t (32 + 3 * a) < cst (t 0) (t 2) (t 3) (x : Int) (y : Int)
    · rw [if_pos c2, if_pos rfl, J, decide_eq_false (show ¬ (cst (t 0) (t 2) (t 3) (x : Int) (y : Int) ≤ t (32 + 3 * a)) by omega), if_neg (show ¬ (false = true) by decide), Int.add_zero]
    · rw [if_neg c2, if_neg (by decide), xg_pos (by omega), J, decide_eq_true (show cst (t 0) (t 2) (t 3) (x : Int) (y : Int) ≤ t (32 + 3 * a) by omega), if_pos rfl]
  · rw [if_neg c, if_pos rfl, J, decide_eq_false c, Bool.false_and, if_neg (show ¬ (false = true) by decide), Int.add_zero]
/-- the fish of a couple of cells -/
def prF (t : Nat → Int) (a o : Nat) (p : Nat) : Int := if ((p % 64 : Nat) : Int) < t 0 * t 1 then fsV t (yari 8 (pbV t a o ((p / 64 : Nat) : Int) ((p % 64 : Nat) : Int)) (pbV t o a ((p % 64 : Nat) : Int) ((p / 64 : Nat) : Int))) else -1
theorem bsV_g {f : Nat → Int} : ∀ k, -1 ≤ bsV f k := by
  intro k
  induction k with
  | zero => exact Int.le_refl _
  | succ k ih =>
    show -1 ≤ (if bsV f k < f k then f k else bsV f k)
    by_cases c : bsV f k < f k
    · rw [if_pos c]; omega
    · rw [if_neg c]; exact ih
theorem bs_skip {f : Nat → Int} {c0 : Int} {k : Nat} : ∀ d, (∀ j, j < d → f (k + j) = -1) → bsV f (k + d) = bsV f k ∧ bsC f c0 (k + d) = bsC f c0 k := by
  intro d
  induction d with
  | zero => intro _; exact ⟨rfl, rfl⟩
  | succ d ih =>
    intro hj
    obtain ⟨i1, i2⟩ := ih (fun j w => hj j (by omega))
    have g := bsV_g (f := f) (k + d)
    have e := hj d (by omega)
    have nc : ¬ (bsV f (k + d) < f (k + d)) := by omega
    have d2 : bsV f (k + (d + 1)) = if bsV f (k + d) < f (k + d) then f (k + d) else bsV f (k + d) := rfl
    have d0 : bsC f c0 (k + (d + 1)) = if bsV f (k + d) < f (k + d) then ((k + d : Nat) : Int) else bsC f c0 (k + d) := rfl
    rw [d2, d0, if_neg nc, if_neg nc]
    exact ⟨i1, i2⟩
theorem prF_s {t : Nat → Int} {a o k : Nat} (hW : tW0 t) (c0 : Int) : bsV (prF t a o) (64 * k + (t 0 * t 1).toNat + (64 - (t 0 * t 1).toNat)) = bsV (prF t a o) (64 * k + (t 0 * t 1).toNat) ∧ bsC (prF t a o) c0 (64 * k + (t 0 * t 1).toNat + (64 - (t 0 * t 1).toNat)) = bsC (prF t a o) c0 (64 * k + (t 0 * t 1).toNat) := by
  have Mb := M_b hW
  refine bs_skip _ (fun j hj => if_neg ?_)
  have : (64 * k + (t 0 * t 1).toNat + j) % 64 = (t 0 * t 1).toNat + j := by omega
  rw [this]
  omega
end
section
/-! two boats together: the best couple of cells, the class -/
def prE (f : Nat → Int) (p : Nat) (h h2 : yH) : Prop := (∀ x j, ¬ (x = 170 ∧ (j = 0 ∨ j = 1 ∨ j = 2)) → h2 x j = h x j) ∧ h2 170 2 = bsV f p ∧ (p = 0 ∨ ∃ i j : Nat, i < 64 ∧ j < 64 ∧ h2 170 0 = (i : Int) ∧ h2 170 1 = (j : Int) ∧ bsC f 0 p = ((64 * i + j : Nat) : Int))
/-- what was seen from all cells by both -/
def prK (t : Nat → Int) (a o : Nat) (h : yH) : Prop := (∀ c : Nat, (c : Int) < t 0 * t 1 → (h 171 (0 + c) = nst t a (c : Int) (t 5).toNat ∧ h 172 (0 + c) = wvN t a (o : Int) (c : Int)) ∧ h 171 (64 + c) = nst t o (c : Int) (t 5).toNat ∧ h 172 (64 + c) = wvN t o (a : Int) (c : Int)) ∧ ∀ j : Nat, j < 16 → h 173 j = fsV t (j : Int)
theorem prC_i {b a o i : Nat} {t : Nat → Int} {h : yH} (hb : b + 8 ≤ 170) (hW : tW0 t) (ha : (a : Int) < t 6) (ho : (o : Int) < t 6) (hS : cS b t h) (hp : cSp b h) (hc : cPc h) (hK : prK t a o h) (hi : (i : Int) < t 0 * t 1) : ∀ (mm j n : Nat) (hh : yH), (mm : Int) + j = t 0 * t 1 → prE (prF t a o) (64 * i + j) h hh →
    ∃ h2, xl_X0_findPair (n + mm + 1) 42 [170, (b : Int), (a : Int), (o : Int), (i : Int), (j : Int)] hh = xl_X0_findPair n 30 [170, (b : Int), (a : Int), (o : Int), ((i + 1 : Nat) : Int)] h2 ∧ prE (prF t a o) (64 * i + (t 0 * t 1).toNat) h h2 := by
  have Mb := M_b hW
  intro mm
  induction mm with
  | zero =>
    intro j n hh e1 I
    have S1 : cS b t hh := hS.fr (fun x j w1 w2 => I.1 x j (by omega))
    refine ⟨hh, ?_, ?_⟩
    · rw [Nat.add_zero, e_X0_findPair_42, cells_e S1 hW, xb_some, if_neg (by omega), xg_pos (by omega), show (i : Int) + 1 = ((i + 1 : Nat) : Int) by omega]
    · rw [show (t 0 * t 1).toNat = j by omega]; exact I
  | succ mm ih =>
    intro j n hh e1 I
    obtain ⟨fr, v2, v0⟩ := id I
    have S1 : cS b t hh := hS.fr (fun x j w1 w2 => fr x j (by omega))
    have p1 : cSp b hh := hp.fr (fun j _ => fr b j (by omega))
    have c1 : cPc hh := hc.fr (fun j w1 w2 => fr 170 j (by omega))
    obtain ⟨⟨k1, k2⟩, -, -⟩ := hK.1 i hi
    obtain ⟨-, k3, k4⟩ := hK.1 j (by omega)
    have q1 := cbC_e (n := n + (mm + 1)) (o := o) (of := 0) (x := i) (y := j) S1 p1 c1 hW ha (by omega) (by omega) (Or.inl rfl) (by rw [fr 171 _ (by omega)]; exact k1) (by rw [fr 172 _ (by omega)]; exact k2)
    have q2 := cbC_e (n := n + (mm + 1)) (a := o) (o := a) (of := 64) (x := j) (y := i) S1 p1 c1 hW ho (by omega) (by omega) (Or.inr rfl) (by rw [fr 171 _ (by omega)]; exact k3) (by rw [fr 172 _ (by omega)]; exact k4)
    rw [show ((0 : Nat) : Int) = 0 from rfl] at q1
    rw [show ((64 : Nat) : Int) = 64 from rfl] at q2
    have b15 := or15 (pbV_b (t := t) (a := a) (o := o) (x := (i : Int)) (y := (j : Int)) hW) (pbV_b (t := t) (a := o) (o := a) (x := (j : Int)) (y := (i : Int)) hW)
    have e3 := hK.2 (yari 8 (pbV t a o (i : Int) (j : Int)) (pbV t o a (j : Int) (i : Int))).toNat (by omega)
    rw [show (((yari 8 (pbV t a o (i : Int) (j : Int)) (pbV t o a (j : Int) (i : Int))).toNat : Nat) : Int) = yari 8 (pbV t a o (i : Int) (j : Int)) (pbV t o a (j : Int) (i : Int)) by omega, ← fr 173 _ (by omega)] at e3
    have fe : prF t a o (64 * i + j) = fsV t (yari 8 (pbV t a o (i : Int) (j : Int)) (pbV t o a (j : Int) (i : Int))) := by
      have m1 : (64 * i + j) % 64 = j := by omega
      have m2 : (64 * i + j) / 64 = i := by omega
      unfold prF
      rw [m1, m2, if_pos (by omega)]
    rw [← fe] at e3
    have d2 : bsV (prF t a o) (64 * i + (j + 1)) = if bsV (prF t a o) (64 * i + j) < prF t a o (64 * i + j) then prF t a o (64 * i + j) else bsV (prF t a o) (64 * i + j) := rfl
    have d0 : bsC (prF t a o) 0 (64 * i + (j + 1)) = if bsV (prF t a o) (64 * i + j) < prF t a o (64 * i + j) then ((64 * i + j : Nat) : Int) else bsC (prF t a o) 0 (64 * i + j) := rfl
    by_cases c : bsV (prF t a o) (64 * i + j) < prF t a o (64 * i + j)
    · rw [if_pos c] at d2 d0
      obtain ⟨h2, g1, g2⟩ := ih (j + 1) n (zup (zup (zup hh 170 2 (prF t a o (64 * i + j))) 170 0 (i : Int)) 170 1 (j : Int)) (by omega) ⟨fun x j w => by rw [zup_ne (by omega), zup_ne (by omega), zup_ne (by omega)]; exact fr x j w, by rw [zup_ne (show ¬ (170 = 170 ∧ 2 = 1) by omega), zup_ne (show ¬ (170 = 170 ∧ 2 = 0) by omega), zup_at, d2], Or.inr ⟨i, j, by omega, by omega, by rw [zup_ne (show ¬ (170 = 170 ∧ 0 = 1) by omega), zup_at], zup_at _ _ _ _, d0⟩⟩
      refine ⟨h2, ?_, g2⟩
      rw [show n + (mm + 1) + 1 = (n + (mm + 1)) + 1 from rfl, e_X0_findPair_42, cells_e S1 hW, xb_some, if_pos (by omega), q1, xb_some, q2, xb_some, xg_pos c1.2.2, xg_pos (by omega), v2, e3, if_pos c, xg_pos (by omega), show (j : Int) + 1 = ((j + 1 : Nat) : Int) by omega]
      exact g1
    · rw [if_neg c] at d2 d0
      obtain ⟨h2, g1, g2⟩ := ih (j + 1) n hh (by omega) ⟨fr, by rw [v2, d2], by
        rcases v0 with v0 | ⟨i', j', w1, w2, w3, w4, w5⟩
        · exfalso
          rw [v0] at c
          have f0 := fsV_b (x := yari 8 (pbV t a o (i : Int) (j : Int)) (pbV t o a (j : Int) (i : Int))) hW
          rw [v0] at fe
          have b0 : bsV (prF t a o) 0 = -1 := rfl
          omega
        · exact Or.inr ⟨i', j', w1, w2, w3, w4, by rw [d0]; exact w5⟩⟩
      refine ⟨h2, ?_, g2⟩
      rw [show n + (mm + 1) + 1 = (n + (mm + 1)) + 1 from rfl, e_X0_findPair_42, cells_e S1 hW, xb_some, if_pos (by omega), q1, xb_some, q2, xb_some, xg_pos c1.2.2, xg_pos (by omega), v2, e3, if_neg c, xg_pos (by omega), show (j : Int) + 1 = ((j + 1 : Nat) : Int) by omega]
      exact g1
theorem prC_l {b a o : Nat} {t : Nat → Int} {h : yH} (hb : b + 8 ≤ 170) (hW : tW0 t) (ha : (a : Int) < t 6) (ho : (o : Int) < t 6) (hS : cS b t h) (hp : cSp b h) (hc : cPc h) (hK : prK t a o h) : ∀ (mm i n : Nat) (hh : yH), (mm : Int) + i = t 0 * t 1 → 66 * mm + 1 ≤ n → prE (prF t a o) (64 * i) h hh →
    ∃ h2, xl_X0_findPair n 30 [170, (b : Int), (a : Int), (o : Int), (i : Int)] hh = some (0, h2) ∧ prE (prF t a o) (64 * (t 0 * t 1).toNat) h h2 := by
  have Mb := M_b hW
  intro mm
  induction mm with
  | zero =>
    intro i n hh e1 e2 I
    obtain ⟨n, rfl⟩ : ∃ n', n = n' + 1 := ⟨n - 1, by omega⟩
    have S1 : cS b t hh := hS.fr (fun x j w1 w2 => I.1 x j (by omega))
    refine ⟨hh, ?_, ?_⟩
    · rw [e_X0_findPair_30, cells_e S1 hW, xb_some, if_neg (by omega)]
    · rw [show (t 0 * t 1).toNat = i by omega]; exact I
  | succ mm ih =>
    intro i n hh e1 e2 I
    obtain ⟨n, rfl⟩ : ∃ n', n = (n' + (t 0 * t 1).toNat + 1) + 1 := ⟨n - (t 0 * t 1).toNat - 2, by omega⟩
    have S1 : cS b t hh := hS.fr (fun x j w1 w2 => I.1 x j (by omega))
    obtain ⟨h3, i1, i2⟩ := prC_i (i := i) hb hW ha ho hS hp hc hK (by omega) (t 0 * t 1).toNat 0 n hh (by omega) I
    rw [show ((0 : Nat) : Int) = 0 from rfl] at i1
    obtain ⟨s1, s2⟩ := prF_s (a := a) (o := o) (k := i) hW 0
    rw [show 64 * i + (t 0 * t 1).toNat + (64 - (t 0 * t 1).toNat) = 64 * (i + 1) by omega] at s1 s2
    obtain ⟨f1, f2, f3⟩ := i2
    obtain ⟨h2, g1, g2⟩ := ih (i + 1) n h3 (by omega) (by omega) ⟨f1, by rw [s1]; exact f2, by
      rcases f3 with f3 | ⟨i', j', w1, w2, w3, w4, w5⟩
      · exfalso; omega
      · exact Or.inr ⟨i', j', w1, w2, w3, w4, by rw [s2]; exact w5⟩⟩
    refine ⟨h2, ?_, g2⟩
    rw [e_X0_findPair_30, cells_e S1 hW, xb_some, if_pos (by omega), i1]
    exact g1
theorem prC_e {n b a o : Nat} {t : Nat → Int} {h : yH} (hn : 4400 ≤ n) (hb : b + 8 ≤ 170) (hW : tW0 t) (ha : (a : Int) < t 6) (ho : (o : Int) < t 6) (hS : cS b t h) (hp : cSp b h) (hc : cPc h) : ∃ h2, f_X0_findPair n [170, (b : Int), (a : Int), (o : Int)] h = some (0, h2) ∧ (∀ x j, x < 170 ∨ 174 ≤ x → h2 x j = h x j) ∧ cPc h2 ∧ h2 170 2 = bsV (prF t a o) (64 * (t 0 * t 1).toNat) ∧ ∃ i j : Nat, i < 64 ∧ j < 64 ∧ h2 170 0 = (i : Int) ∧ h2 170 1 = (j : Int) ∧ bsC (prF t a o) 0 (64 * (t 0 * t 1).toNat) = ((64 * i + j : Nat) : Int) := by
  have Mb := M_b hW
  have w6 := hW.wd.2.2.2.2
  obtain ⟨hA, A1, A2, A3⟩ := aft_l (h := h) (by omega) hW 16 0 n h rfl (by omega) hS hp hc.2.2 (fun _ _ _ => rfl) (fun j hj => by omega)
  have SA : cS b t hA := hS.fr (fun x j w1 w2 => A2 x j (by omega))
  have pA : cSp b hA := hp.fr (fun j _ => A2 b j (by omega))
  have cA : cPc hA := hc.fr (fun j _ _ => A2 170 j (by omega))
  obtain ⟨hB, B1, B2, B3⟩ := look_e (n := n) (lo := (o : Int)) (of := 0) (by omega) hb hW ha (Or.inl rfl) (Or.inr (by omega)) SA pA cA
  have SB : cS b t hB := SA.fr (fun x j w1 w2 => B3 x j (by omega))
  have pB : cSp b hB := pA.fr (fun j _ => B3 b j (by omega))
  have cB : cPc hB := cA.fr (fun j _ _ => B3 170 j (by omega))
  obtain ⟨hC, C1, C2, C3⟩ := look_e (n := n) (lo := (a : Int)) (of := 64) (by omega) hb hW ho (Or.inr rfl) (Or.inr (by omega)) SB pB cB
  have SC : cS b t hC := SB.fr (fun x j w1 w2 => C3 x j (by omega))
  have pC : cSp b hC := pB.fr (fun j _ => C3 b j (by omega))
  have cC : cPc hC := cB.fr (fun j _ _ => C3 170 j (by omega))
  have u : ∀ x j, ¬ (x = 170 ∧ j = 2) → (zup hC 170 2 (-1)) x j = hC x j := fun x j w => zup_ne w
  obtain ⟨h2, g1, g2, g3, g4⟩ := prC_l (h := zup hC 170 2 (-1)) hb hW ha ho (SC.fr (fun x j w1 w2 => u x j (by omega))) (pC.fr (fun j _ => u b j (by omega))) (cC.fr (fun j w1 w2 => u 170 j (by omega))) ⟨fun c q => by
    obtain ⟨q1, q2⟩ := B2 c (by omega)
    obtain ⟨q3, q4⟩ := C2 c (by omega)
    rw [u 171 (0 + c) (by omega), u 172 (0 + c) (by omega), u 171 (64 + c) (by omega), u 172 (64 + c) (by omega), C3 171 (0 + c) (by omega), C3 172 (0 + c) (by omega)]
    exact ⟨⟨q1, q2⟩, q3, q4⟩, fun j hj => by rw [u 173 j (by omega), C3 173 j (by omega), B3 173 j (by omega)]; exact A3 j hj⟩ (t 0 * t 1).toNat 0 n (zup hC 170 2 (-1)) (by omega) (by omega) ⟨fun _ _ _ => rfl, zup_at _ _ _ _, Or.inl rfl⟩
  refine ⟨h2, ?_, fun x j w => by rw [g2 x j (by omega), u x j (by omega), C3 x j (by omega), B3 x j (by omega), A2 x j (by omega)], cC.fr (fun j w1 w2 => by rw [g2 170 j (by omega), u 170 j (by omega)]), g3, g4.resolve_left (by omega)⟩
  rw [e_X0_findPair, e_X0_addFishTogether]
  rw [show ((0 : Nat) : Int) = 0 from rfl] at A1 B1 g1
  rw [show ((64 : Nat) : Int) = 64 from rfl] at C1
  rw [A1, xb_some, B1, xb_some, C1, xb_some]
  exact g1
end
