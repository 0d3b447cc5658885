/-! what the class tells and what the reference tells are the same: told at B, and block κ -/
def RB (F : Prop) (B κ : Nat) (h g : yH) : Prop := h (B + 4) 1 = g 1 κ ∧ (∀ i : Nat, (i : Int) < h (B + 4) 1 → h (B + 5) i = g 0 (600 * κ + i)) ∧ (∀ j, j < 3 → h (B + 6) j = g 4 (3 * κ + j)) ∧ h (B + 3) 5 = g 2 κ ∧ h (B + 3) 6 = g 3 κ ∧
  (∀ i, i < 2 → ∃ t : Nat → Int, (F → cS (B + 20 + 10 * i) t h) ∧ (∀ j, j < 50 → g 5 (100 * κ + 50 * i + j) = t j) ∧ ((i : Int) < g 4 (3 * κ) → tW0 t)) ∧
  (∀ i, i < 2 → ∃ t : Nat → Int, cD (B + 40 + 10 * i) t h ∧ (∀ j, j < 121 → g 6 (242 * κ + 121 * i + j) = t j) ∧ ((i : Int) < g 4 (3 * κ + 1) → tW1 t)) ∧
  (∀ i, i < 2 → ∃ t : Nat → Int, cQ (B + 60 + 10 * i) t h ∧ (∀ j, j < 52 → g 7 (104 * κ + 52 * i + j) = t j) ∧ ((i : Int) < g 4 (3 * κ + 2) → tW2 t))
def RI (F : Prop) (h g : yH) : Prop := ∀ k, k < 3 → (g 34 k = 0 ∧ h 2 k = -1) ∨ (g 34 k = 1 ∧ h 2 k = ((1000 * (k + 1) + 3 : Nat) : Int) ∧ cPb (1000 * (k + 1)) h ∧ RB F (1000 * (k + 1)) (k + 1) h g)
def RR (F : Prop) (h g : yH) : Prop := cP h ∧ rP g ∧ RB F 0 0 h g ∧ RI F h g
theorem RB.fr {F : Prop} {B κ : Nat} {h h2 g g2 : yH} (R : RB F B κ h g) (hc : ∀ a j, B + 3 ≤ a → a ≤ B + 79 → h2 a j = h a j) (h0 : ∀ j, 600 * κ ≤ j → j < 600 * κ + 600 → g2 0 j = g 0 j) (h1 : g2 1 κ = g 1 κ ∧ g2 2 κ = g 2 κ ∧ g2 3 κ = g 3 κ) (h4 : ∀ j, 3 * κ ≤ j → j < 3 * κ + 3 → g2 4 j = g 4 j)
    (h5 : ∀ j, 100 * κ ≤ j → j < 100 * κ + 100 → g2 5 j = g 5 j) (h6 : ∀ j, 242 * κ ≤ j → j < 242 * κ + 242 → g2 6 j = g 6 j) (h7 : ∀ j, 104 * κ ≤ j → j < 104 * κ + 104 → g2 7 j = g 7 j) (hl : h (B + 4) 1 ≤ 600) : RB F B κ h2 g2 := by
  obtain ⟨r1, r2, r3, r4, r5, r6, r7, r8⟩ := R
  refine ⟨by rw [hc _ _ (by omega) (by omega), h1.1]; exact r1, fun i hi => ?_, fun j hj => ?_, by rw [hc _ _ (by omega) (by omega), h1.2.1]; exact r4, by rw [hc _ _ (by omega) (by omega), h1.2.2]; exact r5, fun i hi => ?_, fun i hi => ?_, fun i hi => ?_⟩
  · rw [hc _ _ (by omega) (by omega)] at hi
    rw [hc _ _ (by omega) (by omega), h0 _ (by omega) (by omega)]
    exact r2 i hi
  · rw [hc _ _ (by omega) (by omega), h4 _ (by omega) (by omega)]
    exact r3 j hj
  · obtain ⟨t, a1, a2, a3⟩ := r6 i hi
    refine ⟨t, fun f => (a1 f).at (fun a j w1 w2 => hc a j (by omega) (by omega)), fun j hj => by rw [h5 _ (by omega) (by omega)]; exact a2 j hj, fun w => a3 (by rw [h4 _ (by omega) (by omega)] at w; exact w)⟩
  · obtain ⟨t, a1, a2, a3⟩ := r7 i hi
    refine ⟨t, a1.at (fun a j w1 w2 => hc a j (by omega) (by omega)), fun j hj => by rw [h6 _ (by omega) (by omega)]; exact a2 j hj, fun w => a3 (by rw [h4 _ (by omega) (by omega)] at w; exact w)⟩
  · obtain ⟨t, a1, a2, a3⟩ := r8 i hi
    refine ⟨t, a1.at (fun a j w1 w2 => hc a j (by omega) (by omega)), fun j hj => by rw [h7 _ (by omega) (by omega)]; exact a2 j hj, fun w => a3 (by rw [h4 _ (by omega) (by omega)] at w; exact w)⟩
/-- told over, on both sides -/
theorem RB.cp {F : Prop} {d s κ μ : Nat} {h h2 g g2 : yH} (R : RB F s κ h g) (hl : h (s + 4) 1 ≤ 600) (hc : tcR d s h h2) (hr : raR κ μ g g2) : RB F d μ h2 g2 := by
  obtain ⟨r1, r2, r3, r4, r5, r6, r7, r8⟩ := R
  obtain ⟨c1, c2, c3, c4, c5, c6, c7, c8, -, -⟩ := hc
  obtain ⟨q0, q1, q2, q3, q4, q5, q6, q7, -⟩ := hr
  refine ⟨by rw [c1, q1]; exact r1, fun i hi => ?_, fun j hj => ?_, by rw [c7, q2]; exact r4, by rw [c8, q3]; exact r5, fun i hi => ?_, fun i hi => ?_, fun i hi => ?_⟩
  · rw [c1] at hi
    rw [c2 i hi, q0 i (by omega)]
    exact r2 i hi
  · rw [c3 j hj, q4 j hj]
    exact r3 j hj
  · obtain ⟨t, a1, a2, a3⟩ := r6 i hi
    refine ⟨t, fun f => c4 i hi t (a1 f), fun j hj => ?_, fun w => a3 ?_⟩
    · rw [show 100 * μ + 50 * i + j = 100 * μ + (50 * i + j) by omega, q5 _ (by omega), ← a2 j hj, show 100 * κ + 50 * i + j = 100 * κ + (50 * i + j) by omega]
    · rw [show 3 * μ = 3 * μ + 0 by omega, q4 0 (by decide)] at w
      exact w
  · obtain ⟨t, a1, a2, a3⟩ := r7 i hi
    refine ⟨t, c5 i hi t a1, fun j hj => ?_, fun w => a3 ?_⟩
    · rw [show 242 * μ + 121 * i + j = 242 * μ + (121 * i + j) by omega, q6 _ (by omega), ← a2 j hj, show 242 * κ + 121 * i + j = 242 * κ + (121 * i + j) by omega]
    · rw [q4 1 (by decide)] at w
      exact w
  · obtain ⟨t, a1, a2, a3⟩ := r8 i hi
    refine ⟨t, c6 i hi t a1, fun j hj => ?_, fun w => a3 ?_⟩
    · rw [show 104 * μ + 52 * i + j = 104 * μ + (52 * i + j) by omega, q7 _ (by omega), ← a2 j hj, show 104 * κ + 52 * i + j = 104 * κ + (52 * i + j) by omega]
    · rw [q4 2 (by decide)] at w
      exact w
/-- the images' lengths -/
def lnI (h : yH) : Prop := ∀ k, k < 3 → h (1000 * (k + 1) + 4) 1 ≤ 600 ∨ h 2 k = -1
/-- the images stay where the class's cells behind 1000 and the reference's blocks behind the first stay -/
theorem RI.fr {F : Prop} {h h2 g g2 : yH} (R : RI F h g) (hL : lnI h) (hc : ∀ a j, 1000 ≤ a → h2 a j = h a j) (hi : ∀ j, h2 2 j = h 2 j) (h34 : ∀ j, g2 34 j = g 34 j) (h0 : ∀ j, 600 ≤ j → g2 0 j = g 0 j) (h1 : ∀ a j, a = 1 ∨ a = 2 ∨ a = 3 → j ≠ 0 → g2 a j = g a j) (h4 : ∀ j, 3 ≤ j → g2 4 j = g 4 j)
    (h5 : ∀ j, 100 ≤ j → g2 5 j = g 5 j) (h6 : ∀ j, 242 ≤ j → g2 6 j = g 6 j) (h7 : ∀ j, 104 ≤ j → g2 7 j = g 7 j) : RI F h2 g2 := by
  intro k hk
  rw [hi, h34]
  rcases R k hk with w | ⟨w1, w2, w3, w4⟩
  · exact Or.inl w
  · refine Or.inr ⟨w1, w2, w3.fr (fun p hp => hc _ _ (by omega)), w4.fr (fun a j u1 u2 => hc a j (by omega)) (fun j u1 u2 => h0 j (by omega)) ⟨h1 _ _ (by omega) (by omega), h1 _ _ (by omega) (by omega), h1 _ _ (by omega) (by omega)⟩ (fun j u1 u2 => h4 j (by omega)) (fun j u1 u2 => h5 j (by omega)) (fun j u1 u2 => h6 j (by omega)) (fun j u1 u2 => h7 j (by omega)) ?_⟩
    rcases hL k hk with q | q
    · exact q
    · rw [q] at w2
      omega
/-! feed, end -/
theorem RR_feed {F : Prop} {m n : Nat} {x1 x2 x3 x4 x5 : Int} {h g : yH} (hn : 6 ≤ n ∧ 6 ≤ m) (R : RR F h g) (hL : lnI h) (hm : 0 ≤ h 4 1 ∧ h 4 1 ≤ 600) : ∃ v h2 g2, f_X11_feed n [1, x1, x2, x3, x4, x5] h = some (v, h2) ∧ f_X12_feed m [35, x1, x2, x3, x4, x5] g = some (v, g2) ∧ RR F h2 g2 := by
  obtain ⟨hP, gP, R0, RI0⟩ := R
  obtain ⟨N, eN⟩ : ∃ N : Nat, h 4 1 = (N : Int) := ⟨(h 4 1).toNat, by omega⟩
  have gN : g 1 0 = (N : Int) := by rw [← eN]; exact R0.1.symm
  obtain ⟨v, h2, e1, P2, r⟩ := feedC_r (n := n) (x1 := x1) (x2 := x2) (x3 := x3) (x4 := x4) (x5 := x5) hn.1 hP eN (by omega)
  obtain ⟨w, g2, e2, Q2, q⟩ := feedR_r (n := m) (x1 := x1) (x2 := x2) (x3 := x3) (x4 := x4) (x5 := x5) hn.2 gP gN (by omega)
  rcases r with ⟨c1, ev, eh⟩ | ⟨c1, ev, c2, c3⟩
  · rw [ev, eh] at e1
    rcases q with ⟨d1, ew, eg⟩ | ⟨d1, -⟩
    · rw [ew, eg] at e2
      rw [eg] at Q2
      refine ⟨_, _, _, e1, e2, hP, Q2, R0.fr (fun _ _ _ _ => rfl) (fun j _ _ => by rw [zup_ne (by omega)]) ⟨by rw [zup_ne (by omega)], by rw [zup_ne (by omega)], by rw [zup_ne (by omega)]⟩ (fun j _ _ => by rw [zup_ne (by omega)]) (fun j _ _ => by rw [zup_ne (by omega)]) (fun j _ _ => by rw [zup_ne (by omega)]) (fun j _ _ => by rw [zup_ne (by omega)]) hm.2, RI0.fr hL (fun _ _ _ => rfl) (fun _ => rfl) (fun j => by rw [zup_ne (by omega)]) (fun j _ => by rw [zup_ne (by omega)]) (fun a j _ _ => by rw [zup_ne (by omega)]) (fun j _ => by rw [zup_ne (by omega)]) (fun j _ => by rw [zup_ne (by omega)]) (fun j _ => by rw [zup_ne (by omega)]) (fun j _ => by rw [zup_ne (by omega)])⟩
    · omega
  · rw [ev] at e1
    rcases q with ⟨d1, -⟩ | ⟨d1, ew, d2, d3⟩
    · omega
    · rw [ew] at e2
      have hc : ∀ a j, a ≠ 5 → ¬ (a = 4 ∧ j = 1) → h2 a j = h a j := fun a j w1 w2 => by rw [c3 a j w2, if_neg (by omega)]
      have gc : ∀ a j, a ≠ 0 → ¬ (a = 1 ∧ j = 0) → ¬ (a = 35 ∧ j = 0) → g2 a j = g a j := fun a j w1 w2 w3 => by rw [d3 a j w2, if_neg (by omega), zup_ne w3]
      have g0 : ∀ j, g2 0 j = if N ≤ j ∧ j < N + 20 then fBy (fXs x1 x2 x3 x4 x5) (j - N) else g 0 j := fun j => by
        rw [d3 0 j (by omega)]
        by_cases w : N ≤ j ∧ j < N + 20
        · rw [if_pos (by omega), if_pos w]
        · rw [if_neg (by omega), if_neg w, zup_ne (by omega)]
      obtain ⟨r1, r2, r3, r4, r5, r6, r7, r8⟩ := R0
      refine ⟨_, _, _, e1, e2, P2, Q2, ⟨by rw [c2, d2], fun i hi => ?_, fun j hj => ?_, ?_, ?_, fun i hi => ?_, fun i hi => ?_, fun i hi => ?_⟩, RI0.fr hL (fun a j w => hc a j (by omega) (by omega)) (fun j => hc _ _ (by omega) (by omega)) (fun j => gc _ _ (by omega) (by omega) (by omega)) (fun j w => ?_) (fun a j w1 w2 => gc _ _ (by omega) (by omega) (by omega)) (fun j w => gc _ _ (by omega) (by omega) (by omega)) (fun j w => gc _ _ (by omega) (by omega) (by omega)) (fun j w => gc _ _ (by omega) (by omega) (by omega)) (fun j w => gc _ _ (by omega) (by omega) (by omega))⟩
      · rw [c2] at hi
        rw [show 600 * 0 + i = i by omega, g0, c3 _ _ (by omega)]
        by_cases w : N ≤ i ∧ i < N + 20
        · rw [if_pos (by omega), if_pos w]
        · rw [if_neg (by omega), if_neg w]
          have := r2 i (by rw [eN]; omega)
          rw [show 600 * 0 + i = i by omega] at this
          exact this
      · rw [hc _ _ (by omega) (by omega), gc _ _ (by omega) (by omega) (by omega)]
        exact r3 j hj
      · rw [hc _ _ (by omega) (by omega), gc _ _ (by omega) (by omega) (by omega)]
        exact r4
      · rw [hc _ _ (by omega) (by omega), gc _ _ (by omega) (by omega) (by omega)]
        exact r5
      · obtain ⟨t, a1, a2, a3⟩ := r6 i hi
        exact ⟨t, fun f => (a1 f).at (fun a j w1 w2 => hc a j (by omega) (by omega)), fun j hj => by rw [gc _ _ (by omega) (by omega) (by omega)]; exact a2 j hj, fun w => a3 (by rw [gc _ _ (by omega) (by omega) (by omega)] at w; exact w)⟩
      · obtain ⟨t, a1, a2, a3⟩ := r7 i hi
        exact ⟨t, a1.at (fun a j w1 w2 => hc a j (by omega) (by omega)), fun j hj => by rw [gc _ _ (by omega) (by omega) (by omega)]; exact a2 j hj, fun w => a3 (by rw [gc _ _ (by omega) (by omega) (by omega)] at w; exact w)⟩
      · obtain ⟨t, a1, a2, a3⟩ := r8 i hi
        exact ⟨t, a1.at (fun a j w1 w2 => hc a j (by omega) (by omega)), fun j hj => by rw [gc _ _ (by omega) (by omega) (by omega)]; exact a2 j hj, fun w => a3 (by rw [gc _ _ (by omega) (by omega) (by omega)] at w; exact w)⟩
      · rw [g0, if_neg (by omega)]
theorem RR_end {F : Prop} {m n : Nat} {x : Int} {h g : yH} (R : RR F h g) (hL : lnI h) (hm : 0 ≤ h 4 1 ∧ h 4 1 ≤ 600) : ∃ v h2 g2, f_X11_end n [1, x] h = some (v, h2) ∧ f_X12_end m [35, x] g = some (v, g2) ∧ RR F h2 g2 := by
  obtain ⟨hP, gP, R0, RI0⟩ := R
  obtain ⟨v, h2, e1, r⟩ := endC_r (n := n) (x := x) hP hm
  obtain ⟨w, g2, e2, q⟩ := endR_r (n := m) (x := x) gP (by rw [show g 1 0 = h 4 1 from R0.1.symm]; exact hm)
  have e0 : g 1 0 = h 4 1 := R0.1.symm
  rw [e0] at q
  have gP1 : rP (zup g 35 0 0) := gP.fr (fun j hj => by rw [zup_ne (by omega)])
  have RI1 : RI F h (zup g 35 0 0) := RI0.fr hL (fun _ _ _ => rfl) (fun _ => rfl) (fun j => by rw [zup_ne (by omega)]) (fun j _ => by rw [zup_ne (by omega)]) (fun a j _ _ => by rw [zup_ne (by omega)]) (fun j _ => by rw [zup_ne (by omega)]) (fun j _ => by rw [zup_ne (by omega)]) (fun j _ => by rw [zup_ne (by omega)]) (fun j _ => by rw [zup_ne (by omega)])
  have R1 : RB F 0 0 h (zup g 35 0 0) := R0.fr (fun _ _ _ _ => rfl) (fun j _ _ => by rw [zup_ne (by omega)]) ⟨by rw [zup_ne (by omega)], by rw [zup_ne (by omega)], by rw [zup_ne (by omega)]⟩ (fun j _ _ => by rw [zup_ne (by omega)]) (fun j _ _ => by rw [zup_ne (by omega)]) (fun j _ _ => by rw [zup_ne (by omega)]) (fun j _ _ => by rw [zup_ne (by omega)]) hm.2
  generalize zup g 35 0 0 = g1 at q gP1 RI1 R1
  rcases r with ⟨c1, ev, eh⟩ | ⟨c1, ev, eh⟩
  · rw [ev, eh] at e1
    rcases q with ⟨d1, ew, eg⟩ | ⟨d1, -⟩
    · rw [ew, eg] at e2
      exact ⟨_, _, _, e1, e2, hP, gP1, R1, RI1⟩
    · exact absurd d1 c1
  · rw [ev, eh] at e1
    rcases q with ⟨d1, -⟩ | ⟨d1, ew, eg⟩
    · exact absurd c1 d1
    · rw [ew, eg] at e2
      clear eh eg
      have hc : ∀ a j, ¬ (a = 4 ∧ j = 1) → (zup h 4 1 x) a j = h a j := fun a j w => zup_ne w
      have gc : ∀ a j, ¬ (a = 1 ∧ j = 0) → (zup g1 1 0 x) a j = g1 a j := fun a j w => zup_ne w
      have P2 : cP (zup h 4 1 x) := hP.up (by decide)
      have Q2 : rP (zup g1 1 0 x) := gP1.fr (fun j hj => gc _ _ (by omega))
      have l1 : (zup h 4 1 x) 4 1 = x := zup_at _ _ _ _
      have l2 : (zup g1 1 0 x) 1 0 = x := zup_at _ _ _ _
      generalize zup h 4 1 x = h3 at *
      generalize zup g1 1 0 x = g3 at *
      obtain ⟨r1, r2, r3, r4, r5, r6, r7, r8⟩ := R1
      refine ⟨_, _, _, e1, e2, P2, Q2, ⟨by rw [l1, l2], fun i hi => ?_, fun j hj => ?_, ?_, ?_, fun i hi => ?_, fun i hi => ?_, fun i hi => ?_⟩, RI1.fr hL (fun a j w => hc a j (by omega)) (fun j => hc _ _ (by omega)) (fun j => gc _ _ (by omega)) (fun j w => gc _ _ (by omega)) (fun a j w1 w2 => gc _ _ (by omega)) (fun j w => gc _ _ (by omega)) (fun j w => gc _ _ (by omega)) (fun j w => gc _ _ (by omega)) (fun j w => gc _ _ (by omega))⟩
      · rw [l1] at hi
        rw [hc _ _ (by omega), gc _ _ (by omega)]
        exact r2 i (by rw [show h (0 + 4) 1 = h 4 1 from rfl]; omega)
      · rw [hc _ _ (by omega), gc _ _ (by omega)]
        exact r3 j hj
      · rw [hc _ _ (by omega), gc _ _ (by omega)]
        exact r4
      · rw [hc _ _ (by omega), gc _ _ (by omega)]
        exact r5
      · obtain ⟨t, a1, a2, a3⟩ := r6 i hi
        exact ⟨t, fun f => (a1 f).at (fun a j w1 w2 => hc a j (by omega)), fun j hj => by rw [gc _ _ (by omega)]; exact a2 j hj, fun w => a3 (by rw [gc _ _ (by omega)] at w; exact w)⟩
      · obtain ⟨t, a1, a2, a3⟩ := r7 i hi
        exact ⟨t, a1.at (fun a j w1 w2 => hc a j (by omega)), fun j hj => by rw [gc _ _ (by omega)]; exact a2 j hj, fun w => a3 (by rw [gc _ _ (by omega)] at w; exact w)⟩
      · obtain ⟨t, a1, a2, a3⟩ := r8 i hi
        exact ⟨t, a1.at (fun a j w1 w2 => hc a j (by omega)), fun j hj => by rw [gc _ _ (by omega)]; exact a2 j hj, fun w => a3 (by rw [gc _ _ (by omega)] at w; exact w)⟩
