section
/-! what the class tells and what the reference tells are the same: told at B, and block κ -/
def RB (F : Prop) (B κ : Nat) (h g : yH) : Prop := h (B + 4) 1 = g 1 κ ∧ (∀ i : Nat, (i : Int) < h (B + 4) 1 → h (B + 5) i = g 0 (600 * κ + i)) ∧ (∀ j, j < 3 → h (B + 6) j = g 4 (3 * κ + j)) ∧ h (B + 3) 5 = g 2 κ ∧ h (B + 3) 6 = g 3 κ ∧
  (∀ i, i < 2 → ∃ t : Nat → Int, (F → cS (B + 20 + 10 * i) t h) ∧ (∀ j, j < 50 → g 5 (100 * κ + 50 * i + j) = t j) ∧ ((i : Int) < g 4 (3 * κ) → tW0 t)) ∧
  (∀ i, i < 2 → ∃ t : Nat → Int, cD (B + 40 + 10 * i) t h ∧ (∀ j, j < 121 → g 6 (242 * κ + 121 * i + j) = t j) ∧ ((i : Int) < g 4 (3 * κ + 1) → tW1 t)) ∧
  (∀ i, i < 2 → ∃ t : Nat → Int, cQ (B + 60 + 10 * i) t h ∧ (∀ j, j < 52 → g 7 (104 * κ + 52 * i + j) = t j) ∧ ((i : Int) < g 4 (3 * κ + 2) → tW2 t))
def RI (F : Prop) (h g : yH) : Prop := ∀ k, k < 3 → (g 34 k = 0 ∧ h 2 k = -1) ∨ (g 34 k = 1 ∧ h 2 k = ((1000 * (k + 1) + 3 : Nat) : Int) ∧ cPb (1000 * (k + 1)) h ∧ RB F (1000 * (k + 1)) (k + 1) h g)
def RR (F : Prop) (h g : yH) : Prop := cP h ∧ rP g ∧ RB F 0 0 h g ∧ RI F h g
theorem RB.fr {F : Prop} {B κ : Nat} {h h2 g g2 : yH} (R : RB F B κ h g) (hc : ∀ a j, B + 3 ≤ a → a ≤ B + 79 → h2 a j = h a j) (h0 : ∀ j, 600 * κ ≤ j → j < 600 * κ + 600 → g2 0 j = g 0 j) (h1 : g2 1 κ = g 1 κ ∧ g2 2 κ = g 2 κ ∧ g2 3 κ = g 3 κ) (h4 : ∀ j, 3 * κ ≤ j → j < 3 * κ + 3 → g2 4 j = g 4 j)
    (h5 : ∀ j, 100 * κ ≤ j → j < 100 * κ + 100 → g2 5 j = g 5 j) (h6 : ∀ j, 242 * κ ≤ j → j < 242 * κ + 242 → g2 6 j = g 6 j) (h7 : ∀ j, 104 * κ ≤ j → j < 104 * κ + 104 → g2 7 j = g 7 j) (hl : h (B + 4) 1 ≤ 600) : RB F B κ h2 g2 := by
  obtain ⟨r1, r2, r3, r4, r5, r6, r7, r8⟩ := R
  refine ⟨by rw [hc _ _ (by omega) (by omega), h1.1]; exact r1, fun i hi => ?_, fun j hj => ?_, by rw [hc _ _ (by omega) (by omega), h1.2.1]; exact r4, by rw [hc _ _ (by omega) (by omega), h1.2.2]; exact r5, fun i hi => ?_, fun i hi => ?_, fun i hi => ?_⟩
  · rw [hc _ _ (by omega) (by omega)] at hi
    rw [hc _ _ (by omega) (by omega), h0 _ (by omega) (by omega)]
    exact r2 i hi
  · rw [hc _ _ (by omega) (by omega), h4 _ (by omega) (by omega)]
    exact r3 j hj
  · obtain ⟨t, a1, a2, a3⟩ := r6 i hi
    refine ⟨t, fun f => (a1 f).at (fun a j w1 w2 => hc a j (by omega) (by omega)), fun j hj => by rw [h5 _ (by omega) (by omega)]; exact a2 j hj, fun w => a3 (by rw [h4 _ (by omega) (by omega)] at w; exact w)⟩
  · obtain ⟨t, a1, a2, a3⟩ := r7 i hi
    refine ⟨t, a1.at (fun a j w1 w2 => hc a j (by omega) (by omega)), fun j hj => by rw [h6 _ (by omega) (by omega)]; exact a2 j hj, fun w => a3 (by rw [h4 _ (by omega) (by omega)] at w; exact w)⟩
  · obtain ⟨t, a1, a2, a3⟩ := r8 i hi
    refine ⟨t, a1.at (fun a j w1 w2 => hc a j (by omega) (by omega)), fun j hj => by rw [h7 _ (by omega) (by omega)]; exact a2 j hj, fun w => a3 (by rw [h4 _ (by omega) (by omega)] at w; exact w)⟩
/-- told over, on both sides -/
theorem RB.cp {F : Prop} {d s κ μ : Nat} {h h2 g g2 : yH} (R : RB F s κ h g) (hl : h (s + 4) 1 ≤ 600) (hc : tcR d s h h2) (hr : raR κ μ g g2) : RB F d μ h2 g2 := by
  obtain ⟨r1, r2, r3, r4, r5, r6, r7, r8⟩ := R
  obtain ⟨c1, c2, c3, c4, c5, c6, c7, c8, -, -⟩ := hc
  obtain ⟨q0, q1, q2, q3, q4, q5, q6, q7, -⟩ := hr
  refine ⟨by rw [c1, q1]; exact r1, fun i hi => ?_, fun j hj => ?_, by rw [c7, q2]; exact r4, by rw [c8, q3]; exact r5, fun i hi => ?_, fun i hi => ?_, fun i hi => ?_⟩
  · rw [c1] at hi
    rw [c2 i hi, q0 i (by omega)]
    exact r2 i hi
  · rw [c3 j hj, q4 j hj]
    exact r3 j hj
  · obtain ⟨t, a1, a2, a3⟩ := r6 i hi
    refine ⟨t, fun f => c4 i hi t (a1 f), fun j hj => ?_, fun w => a3 ?_⟩
    · rw [show 100 * μ + 50 * i + j = 100 * μ + (50 * i + j) by omega, q5 _ (by omega), ← a2 j hj, show 100 * κ + 50 * i + j = 100 * κ + (50 * i + j) by omega]
    · rw [show 3 * μ = 3 * μ + 0 by omega, q4 0 (by decide)] at w
      exact w
  · obtain ⟨t, a1, a2, a3⟩ := r7 i hi
    refine ⟨t, c5 i hi t a1, fun j hj => ?_, fun w => a3 ?_⟩
    · rw [show 242 * μ + 121 * i + j = 242 * μ + (121 * i + j) by omega, q6 _ (by omega), ← a2 j hj, show 242 * κ + 121 * i + j = 242 * κ + (121 * i + j) by omega]
    · rw [q4 1 (by decide)] at w
      exact w
  · obtain ⟨t, a1, a2, a3⟩ := r8 i hi
    refine ⟨t, c6 i hi t a1, fun j hj => ?_, fun w => a3 ?_⟩
    · rw [show 104 * μ + 52 * i + j = 104 * μ + (52 * i + j) by omega, q7 _ (by omega), ← a2 j hj, show 104 * κ + 52 * i + j = 104 * κ + (52 * i + j) by omega]
    · rw [q4 2 (by decide)] at w
      exact w
/-- the images' lengths -/
def lnI (h : yH) : Prop := ∀ k, k < 3 → h (1000 * (k + 1) + 4) 1 ≤ 600 ∨ h 2 k = -1
/-- the images stay where the class's cells behind 1000 and the reference's blocks behind the first stay -/
theorem RI.fr {F : Prop} {h h2 g g2 : yH} (R : RI F h g) (hL : lnI h) (hc : ∀ a j, 1000 ≤ a → h2 a j = h a j) (hi : ∀ j, h2 2 j = h 2 j) (h34 : ∀ j, g2 34 j = g 34 j) (h0 : ∀ j, 600 ≤ j → g2 0 j = g 0 j) (h1 : ∀ a j, a = 1 ∨ a = 2 ∨ a = 3 → j ≠ 0 → g2 a j = g a j) (h4 : ∀ j, 3 ≤ j → g2 4 j = g 4 j)
    (h5 : ∀ j, 100 ≤ j → g2 5 j = g 5 j) (h6 : ∀ j, 242 ≤ j → g2 6 j = g 6 j) (h7 : ∀ j, 104 ≤ j → g2 7 j = g 7 j) : RI F h2 g2 := by
  intro k hk
  rw [hi, h34]
  rcases R k hk with w | ⟨w1, w2, w3, w4⟩
  · exact Or.inl w
  · refine Or.inr ⟨w1, w2, w3.fr (fun p hp => hc _ _ (by omega)), w4.fr (fun a j u1 u2 => hc a j (by omega)) (fun j u1 u2 => h0 j (by omega)) ⟨h1 _ _ (by omega) (by omega), h1 _ _ (by omega) (by omega), h1 _ _ (by omega) (by omega)⟩ (fun j u1 u2 => h4 j (by omega)) (fun j u1 u2 => h5 j (by omega)) (fun j u1 u2 => h6 j (by omega)) (fun j u1 u2 => h7 j (by omega)) ?_⟩
    rcases hL k hk with q | q
    · exact q
    · rw [q] at w2
      omega
/-! feed, end -/
theorem RR_feed {F : Prop} {m n : Nat} {x1 x2 x3 x4 x5 : Int} {h g : yH} (hn : 6 ≤ n ∧ 6 ≤ m) (R : RR F h g) (hL : lnI h) (hm : 0 ≤ h 4 1 ∧ h 4 1 ≤ 600) : ∃ v h2 g2, f_X11_feed n [1, x1, x2, x3, x4, x5] h = some (v, h2) ∧ f_X12_feed m [35, x1, x2, x3, x4, x5] g = some (v, g2) ∧ RR F h2 g2 := by
  obtain ⟨hP, gP, R0, RI0⟩ := R
  obtain ⟨N, eN⟩ : ∃ N : Nat, h 4 1 = (N : Int) := ⟨(h 4 1).toNat, by omega⟩
  have gN : g 1 0 = (N : Int) := by rw [← eN]; exact R0.1.symm
  obtain ⟨v, h2, e1, P2, r⟩ := feedC_r (n := n) (x1 := x1) (x2 := x2) (x3 := x3) (x4 := x4) (x5 := x5) hn.1 hP eN (by omega)
  obtain ⟨w, g2, e2, Q2, q⟩ := feedR_r (n := m) (x1 := x1) (x2 := x2) (x3 := x3) (x4 := x4) (x5 := x5) hn.2 gP gN (by omega)
  rcases r with ⟨c1, ev, eh⟩ | ⟨c1, ev, c2, c3⟩
  · rw [ev, eh] at e1
    rcases q with ⟨d1, ew, eg⟩ | ⟨d1, -⟩
    · rw [ew, eg] at e2
      rw [eg] at Q2
      refine ⟨_, _, _, e1, e2, hP, Q2, R0.fr (fun _ _ _ _ => rfl) (fun j _ _ => by rw [zup_ne (by omega)]) ⟨by rw [zup_ne (by omega)], by rw [zup_ne (by omega)], by rw [zup_ne (by omega)]⟩ (fun j _ _ => by rw [zup_ne (by omega)]) (fun j _ _ => by rw [zup_ne (by omega)]) (fun j _ _ => by rw [zup_ne (by omega)]) (fun j _ _ => by rw [zup_ne (by omega)]) hm.2, RI0.fr hL (fun _ _ _ => rfl) (fun _ => rfl) (fun j => by rw [zup_ne (by omega)]) (fun j _ => by rw [zup_ne (by omega)]) (fun a j _ _ => by rw [zup_ne (by omega)]) (fun j _ => by rw [zup_ne (by omega)]) (fun j _ => by rw [zup_ne (by omega)]) (fun j _ => by rw [zup_ne (by omega)]) (fun j _ => by rw [zup_ne (by omega)])⟩
    · omega
  · rw [ev] at e1
    rcases q with ⟨d1, -⟩ | ⟨d1, ew, d2, d3⟩
    · omega
    · rw [ew] at e2
      have hc : ∀ a j, a ≠ 5 → ¬ (a = 4 ∧ j = 1) → h2 a j = h a j := fun a j w1 w2 => by rw [c3 a j w2, if_neg (by omega)]
      have gc : ∀ a j, a ≠ 0 → ¬ (a = 1 ∧ j = 0) → ¬ (a = 35 ∧ j = 0) → g2 a j = g a j := fun a j w1 w2 w3 => by rw [d3 a j w2, if_neg (by omega), zup_ne w3]
      have g0 : ∀ j, g2 0 j = if N ≤ j ∧ j < N + 20 then fBy (fXs x1 x2 x3 x4 x5) (j - N) else g 0 j := fun j => by
        rw [d3 0 j (by omega)]
        by_cases w : N ≤ j ∧ j < N + 20
        · rw [if_pos (by omega), if_pos w]
        · rw [if_neg (by omega), if_neg w, zup_ne (by omega)]
      obtain ⟨r1, r2, r3, r4, r5, r6, r7, r8⟩ := R0
      refine ⟨_, _, _, e1, e2, P2, Q2, ⟨by rw [c2, d2], fun i hi => ?_, fun j hj => ?_, ?_, ?_, fun i hi => ?_, fun i hi => ?_, fun i hi => ?_⟩, RI0.fr hL (fun a j w => hc a j (by omega) (by omega)) (fun j => hc _ _ (by omega) (by omega)) (fun j => gc _ _ (by omega) (by omega) (by omega)) (fun j w => ?_) (fun a j w1 w2 => gc _ _ (by omega) (by omega) (by omega)) (fun j w => gc _ _ (by omega) (by omega) (by omega)) (fun j w => gc _ _ (by omega) (by omega) (by omega)) (fun j w => gc _ _ (by omega) (by omega) (by omega)) (fun j w => gc _ _ (by omega) (by omega) (by omega))⟩
      · rw [c2] at hi
        rw [show 600 * 0 + i = i by omega, g0, c3 _ _ (by omega)]
        by_cases w : N ≤ i ∧ i < N + 20
        · rw [if_pos (by omega), if_pos w]
        · rw [if_neg (by omega), if_neg w]
          have := r2 i (by rw [eN]; omega)
          rw [show 600 * 0 + i = i by omega] at this
          exact this
      · rw [hc _ _ (by omega) (by omega), gc _ _ (by omega) (by omega) (by omega)]
        exact r3 j hj
      · rw [hc _ _ (by omega) (by omega), gc _ _ (by omega) (by omega) (by omega)]
        exact r4
      · rw [hc _ _ (by omega) (by omega), gc _ _ (by omega) (by omega) (by omega)]
        exact r5
      · obtain ⟨t, a1, a2, a3⟩ := r6 i hi
        exact ⟨t, fun f => (a1 f).at (fun a j w1 w2 => hc a j (by omega) (by omega)), fun j hj => by rw [gc _ _ (by omega) (by omega) (by omega)]; exact a2 j hj, fun w => a3 (by rw [gc _ _ (by omega) (by omega) (by omega)] at w; exact w)⟩
      · obtain ⟨t, a1, a2, a3⟩ := r7 i hi
        exact ⟨t, a1.at (fun a j w1 w2 => hc a j (by omega) (by omega)), fun j hj => by rw [gc _ _ (by omega) (by omega) (by omega)]; exact a2 j hj, fun w => a3 (by rw [gc _ _ (by omega) (by omega) (by omega)] at w; exact w)⟩
      · obtain ⟨t, a1, a2, a3⟩ := r8 i hi
        exact ⟨t, a1.at (fun a j w1 w2 => hc a j (by omega) (by omega)), fun j hj => by rw [gc _ _ (by omega) (by omega) (by omega)]; exact a2 j hj, fun w => a3 (by rw [gc _ _ (by omega) (by omega) (by omega)] at w; exact w)⟩
      · rw [g0, if_neg (by omega)]
theorem RR_end {F : Prop} {m n : Nat} {x : Int} {h g : yH} (R : RR F h g) (hL : lnI h) (hm : 0 ≤ h 4 1 ∧ h 4 1 ≤ 600) : ∃ v h2 g2, f_X11_end n [1, x] h = some (v, h2) ∧ f_X12_end m [35, x] g = some (v, g2) ∧ RR F h2 g2 := by
  obtain ⟨hP, gP, R0, RI0⟩ := R
  obtain ⟨v, h2, e1, r⟩ := endC_r (n := n) (x := x) hP hm
  obtain ⟨w, g2, e2, q⟩ := endR_r (n := m) (x := x) gP (by rw [show g 1 0 = h 4 1 from R0.1.symm]; exact hm)
  have e0 : g 1 0 = h 4 1 := R0.1.symm
  rw [e0] at q
  have gP1 : rP (zup g 35 0 0) := gP.fr (fun j hj => by rw [zup_ne (by omega)])
  have RI1 : RI F h (zup g 35 0 0) := RI0.fr hL (fun _ _ _ => rfl) (fun _ => rfl) (fun j => by rw [zup_ne (by omega)]) (fun j _ => by rw [zup_ne (by omega)]) (fun a j _ _ => by rw [zup_ne (by omega)]) (fun j _ => by rw [zup_ne (by omega)]) (fun j _ => by rw [zup_ne (by omega)]) (fun j _ => by rw [zup_ne (by omega)]) (fun j _ => by rw [zup_ne (by omega)])
  have R1 : RB F 0 0 h (zup g 35 0 0) := R0.fr (fun _ _ _ _ => rfl) (fun j _ _ => by rw [zup_ne (by omega)]) ⟨by rw [zup_ne (by omega)], by rw [zup_ne (by omega)], by rw [zup_ne (by omega)]⟩ (fun j _ _ => by rw [zup_ne (by omega)]) (fun j _ _ => by rw [zup_ne (by omega)]) (fun j _ _ => by rw [zup_ne (by omega)]) (fun j _ _ => by rw [zup_ne (by omega)]) hm.2
  generalize zup g 35 0 0 = g1 at q gP1 RI1 R1
  rcases r with ⟨c1, ev, eh⟩ | ⟨c1, ev, eh⟩
  · rw [ev, eh] at e1
    rcases q with ⟨d1, ew, eg⟩ | ⟨d1, -⟩
    · rw [ew, eg] at e2
      exact ⟨_, _, _, e1, e2, hP, gP1, R1, RI1⟩
    · exact absurd d1 c1
  · rw [ev, eh] at e1
    rcases q with ⟨d1, -⟩ | ⟨d1, ew, eg⟩
    · exact absurd c1 d1
    · rw [ew, eg] at e2
      clear eh eg
      have hc : ∀ a j, ¬ (a = 4 ∧ j = 1) → (zup h 4 1 x) a j = h a j := fun a j w => zup_ne w
      have gc : ∀ a j, ¬ (a = 1 ∧ j = 0) → (zup g1 1 0 x) a j = g1 a j := fun a j w => zup_ne w
      have P2 : cP (zup h 4 1 x) := hP.up (by decide)
      have Q2 : rP (zup g1 1 0 x) := gP1.fr (fun j hj => gc _ _ (by omega))
      have l1 : (zup h 4 1 x) 4 1 = x := zup_at _ _ _ _
      have l2 : (zup g1 1 0 x) 1 0 = x := zup_at _ _ _ _
      generalize zup h 4 1 x = h3 at *
      generalize zup g1 1 0 x = g3 at *
      obtain ⟨r1, r2, r3, r4, r5, r6, r7, r8⟩ := R1
      refine ⟨_, _, _, e1, e2, P2, Q2, ⟨by rw [l1, l2], fun i hi => ?_, fun j hj => ?_, ?_, ?_, fun i hi => ?_, fun i hi => ?_, fun i hi => ?_⟩, RI1.fr hL (fun a j w => hc a j (by omega)) (fun j => hc _ _ (by omega)) (fun j => gc _ _ (by omega)) (fun j w => gc _ _ (by omega)) (fun a j w1 w2 => gc _ _ (by omega)) (fun j w => gc _ _ (by omega)) (fun j w => gc _ _ (by omega)) (fun j w => gc _ _ (by omega)) (fun j w => gc _ _ (by omega))⟩
      · rw [l1] at hi
        rw [hc _ _ (by omega), gc _ _ (by omega)]
        exact r2 i (by rw [show h (0 + 4) 1 = h 4 1 from rfl]; omega)
      · rw [hc _ _ (by omega), gc _ _ (by omega)]
        exact r3 j hj
      · rw [hc _ _ (by omega), gc _ _ (by omega)]
        exact r4
      · rw [hc _ _ (by omega), gc _ _ (by omega)]
        exact r5
      · obtain ⟨t, a1, a2, a3⟩ := r6 i hi
        exact ⟨t, fun f => (a1 f).at (fun a j w1 w2 => hc a j (by omega)), fun j hj => by rw [gc _ _ (by omega)]; exact a2 j hj, fun w => a3 (by rw [gc _ _ (by omega)] at w; exact w)⟩
      · obtain ⟨t, a1, a2, a3⟩ := r7 i hi
        exact ⟨t, a1.at (fun a j w1 w2 => hc a j (by omega)), fun j hj => by rw [gc _ _ (by omega)]; exact a2 j hj, fun w => a3 (by rw [gc _ _ (by omega)] at w; exact w)⟩
      · obtain ⟨t, a1, a2, a3⟩ := r8 i hi
        exact ⟨t, a1.at (fun a j w1 w2 => hc a j (by omega)), fun j hj => by rw [gc _ _ (by omega)]; exact a2 j hj, fun w => a3 (by rw [gc _ _ (by omega)] at w; exact w)⟩
end
section
/-! text: the same answer, the same contents -/
theorem txK_c {a b : Nat → Int} {sort at_ : Int} (e : ∀ j, j < 3 → a j = b j) : txK a sort at_ = txK b sort at_ := by
  unfold txK
  by_cases h : 0 ≤ sort ∧ sort ≤ 2
  · rw [if_pos h, if_pos h, e _ (by omega)]
  · rw [if_neg h, if_neg h]
theorem txK_le {m : Nat → Int} {sort at_ : Int} (hk : txK m sort at_ ≠ -2) : txK m sort at_ ≤ m sort.toNat := by
  unfold txK at hk ⊢
  by_cases h1 : 0 ≤ sort ∧ sort ≤ 2
  · rw [if_pos h1] at hk ⊢
    by_cases h2 : at_ = -1
    · rw [if_pos h2] at hk ⊢
      by_cases h3 : m sort.toNat = 2
      · rw [if_pos h3] at hk
        exact absurd rfl hk
      · rw [if_neg h3]
        omega
    · rw [if_neg h2] at hk ⊢
      by_cases h3 : 0 ≤ at_ ∧ at_ < m sort.toNat
      · rw [if_pos h3]
        omega
      · rw [if_neg h3] at hk
        exact absurd rfl hk
  · rw [if_neg h1] at hk
    exact absurd rfl hk
/-- where the contents stay -/
theorem RB.tx {F : Prop} {h h2 g g2 : yH} (R : RB F 0 0 h g) (l1 : h2 4 1 = 0) (l2 : g2 1 0 = 0) (f1 : h2 3 5 = g2 2 0) (f2 : h2 3 6 = g2 3 0) (hc : ∀ a j, 6 ≤ a ∧ a ≤ 79 → h2 a j = h a j) (gc : ∀ a j, 4 ≤ a ∧ a ≤ 7 → g2 a j = g a j) : RB F 0 0 h2 g2 := by
  obtain ⟨r1, r2, r3, r4, r5, r6, r7, r8⟩ := R
  refine ⟨by rw [show h2 (0 + 4) 1 = 0 from l1, l2], fun i hi => ?_, fun j hj => ?_, f1, f2, fun i hi => ?_, fun i hi => ?_, fun i hi => ?_⟩
  · rw [show h2 (0 + 4) 1 = 0 from l1] at hi
    omega
  · rw [hc _ _ (by omega), gc _ _ (by omega)]
    exact r3 j hj
  · obtain ⟨t, a1, a2, a3⟩ := r6 i hi
    exact ⟨t, fun f => (a1 f).at (fun a j w1 w2 => hc a j (by omega)), fun j hj => by rw [gc _ _ (by omega)]; exact a2 j hj, fun w => a3 (by rw [gc _ _ (by omega)] at w; exact w)⟩
  · obtain ⟨t, a1, a2, a3⟩ := r7 i hi
    exact ⟨t, a1.at (fun a j w1 w2 => hc a j (by omega)), fun j hj => by rw [gc _ _ (by omega)]; exact a2 j hj, fun w => a3 (by rw [gc _ _ (by omega)] at w; exact w)⟩
  · obtain ⟨t, a1, a2, a3⟩ := r8 i hi
    exact ⟨t, a1.at (fun a j w1 w2 => hc a j (by omega)), fun j hj => by rw [gc _ _ (by omega)]; exact a2 j hj, fun w => a3 (by rw [gc _ _ (by omega)] at w; exact w)⟩
/-- where a text is kept -/
theorem RB.kp {F : Prop} {of k : Nat} {t : Nat → Int} {h h2 g g2 : yH} (R : RB F 0 0 h g) (hof : of ≤ 2) (hk : k < 2) (hkm : (k : Int) ≤ g 4 of) (l1 : h2 4 1 = 0) (l2 : g2 1 0 = 0) (f1 : h2 3 5 = g2 2 0) (f2 : h2 3 6 = g2 3 0) (hW : tWf of t) (hO : cO of k t h2) (h6 : h2 6 of = max (h 6 of) ((k : Int) + 1))
    (hc : ∀ a j, 6 ≤ a ∧ a ≤ 79 → ¬ (a = 6 ∧ j = of) → ¬ (20 + 20 * of + 10 * k ≤ a ∧ a ≤ 27 + 20 * of + 10 * k) → h2 a j = h a j) (gc : ∀ a j, 4 ≤ a ∧ a ≤ 7 → g2 a j = txS of k t g a j) : RB F 0 0 h2 g2 := by
  obtain ⟨r1, r2, r3, r4, r5, r6, r7, r8⟩ := R
  have e6 : h 6 of = g 4 of := by
    have := r3 of (by omega)
    rw [show 0 + 6 = 6 from rfl, show 3 * 0 + of = of by omega] at this
    exact this
  have g4 : ∀ j, g2 4 j = if j = of then max (g 4 of) ((k : Int) + 1) else g 4 j := fun j => by
    rw [gc 4 j (by omega)]
    unfold txS
    by_cases w : j = of
    · rw [if_pos ⟨rfl, w⟩, if_pos w]
      by_cases w2 : g 4 of = (k : Int)
      · rw [if_pos w2]
        omega
      · rw [if_neg w2]
        omega
    · rw [if_neg (by omega), if_neg (by omega), if_neg (by omega), if_neg (by omega), if_neg w]
  refine ⟨by rw [show h2 (0 + 4) 1 = 0 from l1, l2], fun i hi => ?_, fun j hj => ?_, f1, f2, fun i hi => ?_, fun i hi => ?_, fun i hi => ?_⟩
  · rw [show h2 (0 + 4) 1 = 0 from l1] at hi
    omega
  · rw [show 3 * 0 + j = j by omega, show 0 + 6 = 6 from rfl, g4]
    by_cases w : j = of
    · rw [if_pos w, w, h6, e6]
    · rw [if_neg w, hc 6 j (by omega) (by omega) (by omega)]
      have := r3 j hj
      rw [show 0 + 6 = 6 from rfl, show 3 * 0 + j = j by omega] at this
      exact this
  · by_cases w : of = 0 ∧ i = k
    · obtain ⟨rfl, rfl⟩ := w
      refine ⟨t, fun _ => ?_, fun j hj => ?_, fun _ => hW.1 rfl⟩
      · have := hO.1 rfl
        rw [show 0 + 20 + 10 * i = 20 + 10 * i by omega]
        exact this
      · rw [gc 5 _ (by omega)]
        unfold txS
        rw [if_neg (by omega), if_pos (by omega), show 100 * 0 + 50 * i + j - 50 * i = j by omega]
    · obtain ⟨t', a1, a2, a3⟩ := r6 i hi
      refine ⟨t', fun f => (a1 f).at (fun a j w1 w2 => hc a j (by omega) (by omega) (by omega)), fun j hj => ?_, fun q => a3 ?_⟩
      · rw [gc 5 _ (by omega)]
        unfold txS
        rw [if_neg (by omega), if_neg (by omega), if_neg (by omega), if_neg (by omega)]
        exact a2 j hj
      · rw [show 3 * 0 = 0 from rfl] at q ⊢
        rw [g4] at q
        by_cases w3 : 0 = of
        · rw [if_pos w3, ← w3] at q
          rw [← w3] at hkm
          omega
        · rw [if_neg w3] at q
          exact q
  · by_cases w : of = 1 ∧ i = k
    · obtain ⟨rfl, rfl⟩ := w
      refine ⟨t, ?_, fun j hj => ?_, fun _ => hW.2.1 rfl⟩
      · have := hO.2.1 rfl
        rw [show 0 + 40 + 10 * i = 40 + 10 * i by omega]
        exact this
      · rw [gc 6 _ (by omega)]
        unfold txS
        rw [if_neg (by omega), if_neg (by omega), if_pos (by omega), show 242 * 0 + 121 * i + j - 121 * i = j by omega]
    · obtain ⟨t', a1, a2, a3⟩ := r7 i hi
      refine ⟨t', a1.at (fun a j w1 w2 => hc a j (by omega) (by omega) (by omega)), fun j hj => ?_, fun q => a3 ?_⟩
      · rw [gc 6 _ (by omega)]
        unfold txS
        rw [if_neg (by omega), if_neg (by omega), if_neg (by omega), if_neg (by omega)]
        exact a2 j hj
      · rw [show 3 * 0 + 1 = 1 from rfl] at q ⊢
        rw [g4] at q
        by_cases w3 : 1 = of
        · rw [if_pos w3, ← w3] at q
          rw [← w3] at hkm
          omega
        · rw [if_neg w3] at q
          exact q
  · by_cases w : of = 2 ∧ i = k
    · obtain ⟨rfl, rfl⟩ := w
      refine ⟨t, ?_, fun j hj => ?_, fun _ => hW.2.2 rfl⟩
      · have := hO.2.2 rfl
        rw [show 0 + 60 + 10 * i = 60 + 10 * i by omega]
        exact this
      · rw [gc 7 _ (by omega)]
        unfold txS
        rw [if_neg (by omega), if_neg (by omega), if_neg (by omega), if_pos (by omega), show 104 * 0 + 52 * i + j - 52 * i = j by omega]
    · obtain ⟨t', a1, a2, a3⟩ := r8 i hi
      refine ⟨t', a1.at (fun a j w1 w2 => hc a j (by omega) (by omega) (by omega)), fun j hj => ?_, fun q => a3 ?_⟩
      · rw [gc 7 _ (by omega)]
        unfold txS
        rw [if_neg (by omega), if_neg (by omega), if_neg (by omega), if_neg (by omega)]
        exact a2 j hj
      · rw [show 3 * 0 + 2 = 2 from rfl] at q ⊢
        rw [g4] at q
        by_cases w3 : 2 = of
        · rw [if_pos w3, ← w3] at q
          rw [← w3] at hkm
          omega
        · rw [if_neg w3] at q
          exact q
theorem RR_text {F : Prop} {m n : Nat} {sort at_ : Int} {h g : yH} (hn : 2800 ≤ n ∧ 2600 ≤ m) (R : RR F h g) (hL : lnI h) (hm : 0 ≤ h 4 1 ∧ h 4 1 ≤ 600) (hk : ∀ j, j < 12 → 0 ≤ g 4 j ∧ g 4 j ≤ 2) : ∃ v h2 g2, f_X11_text n [1, sort, at_] h = some (v, h2) ∧ f_X12_text m [35, sort, at_] g = some (v, g2) ∧ RR F h2 g2 := by
  obtain ⟨hP, gP, R0, RI0⟩ := R
  have e0 : h 4 1 = g 1 0 := R0.1
  have e6 : ∀ j, j < 3 → h 6 j = g 4 j := fun j hj => by
    have := R0.2.2.1 j hj
    rw [show 0 + 6 = 6 from rfl, show 3 * 0 + j = j by omega] at this
    exact this
  obtain ⟨t0, w, g2, ht, e2, q⟩ := text_e (n := m) (sort := sort) (at_ := at_) hn.2 gP (by rw [← e0]; exact hm) hk
  have hc : cC (uR g) (g 1 0).toNat h := by
    refine ⟨by rw [e0]; omega, by omega, fun i hi => ?_, hP⟩
    have := R0.2.1 i (by rw [show h (0 + 4) 1 = h 4 1 from rfl]; omega)
    rw [show 600 * 0 + i = i by omega, show h (0 + 5) i = h 5 i from rfl] at this
    unfold uR
    rw [this]
  obtain ⟨v, h2, e1, r⟩ := textC_e (n := n) (sort := sort) (at_ := at_) hn.1 hc (fun j hj => by rw [e6 j hj]; exact hk j (by omega)) ht
  generalize pRd (uR g) (g 1 0).toNat sort.toNat 700 0 (0, -1) t0 (-1) (-1) = S at q r
  obtain ⟨P2, l41, fr, r⟩ := r
  obtain ⟨Q2, s10, s1, s2, s3, s0, s34, q⟩ := q
  have eK : txK (h 6) sort at_ = txK (g 4) sort at_ := txK_c e6
  rw [eK] at r
  have fI : ∀ a j, 1000 ≤ a → h2 a j = h a j := fun a j w => fr a j (by omega) (by omega) (by omega)
  have f2 : ∀ j, h2 2 j = h 2 j := fun j => fr 2 j (by omega) (by omega) (by omega)
  have s123 : ∀ a j, a = 1 ∨ a = 2 ∨ a = 3 → j ≠ 0 → g2 a j = g a j := fun a j w1 w2 => by
    rcases w1 with rfl | rfl | rfl
    · exact s1 j w2
    · exact s2 j w2
    · exact s3 j w2
  rcases r with ⟨c0, c1, c2, c3, c4⟩ | ⟨c0, c2, c3, r⟩
  · rcases q with ⟨-, d1, d2, d3, d4⟩ | ⟨d0, -⟩
    · rw [c1] at e1
      rw [d1] at e2
      refine ⟨_, _, _, e1, e2, P2, Q2, R0.tx l41 s10 (by rw [c2, d2]) (by rw [c3, d3]) (fun a j w => c4 a j w) d4, RI0.fr hL fI f2 s34 (fun j _ => s0 j) s123 (fun j _ => d4 4 j (by omega)) (fun j _ => d4 5 j (by omega)) (fun j _ => d4 6 j (by omega)) (fun j _ => d4 7 j (by omega))⟩
    · exact absurd c0 d0
  · rcases q with ⟨d0, -⟩ | ⟨-, d2, d3, q⟩
    · exact absurd d0 c0
    · have k2 := txK_b (fun j hj => hk j (by omega)) c0
      have kl := txK_le c0
      rcases r with ⟨u0, u1, u2⟩ | ⟨u0, u1, u2, u3, u4, u5⟩
      · rcases q with ⟨-, w1, w2⟩ | ⟨w0, -⟩
        · rw [u1] at e1
          rw [w1] at e2
          refine ⟨_, _, _, e1, e2, P2, Q2, R0.tx l41 s10 (by rw [c2, d2]) (by rw [c3, d3]) (fun a j w => u2 a j w) w2, RI0.fr hL fI f2 s34 (fun j _ => s0 j) s123 (fun j _ => w2 4 j (by omega)) (fun j _ => w2 5 j (by omega)) (fun j _ => w2 6 j (by omega)) (fun j _ => w2 7 j (by omega))⟩
        · exact absurd w0 u0
      · rcases q with ⟨w0, -⟩ | ⟨-, w1, w2, w3⟩
        · exact absurd u0 w0
        · have ev : v = w := u1.trans w1.symm
          rw [ev] at e1 u3 u4 u5
          rw [← w1] at k2 kl w3
          obtain ⟨of, rfl⟩ : ∃ of : Nat, sort = (of : Int) := ⟨sort.toNat, by omega⟩
          obtain ⟨k, rfl⟩ : ∃ k : Nat, w = (k : Int) := ⟨w.toNat, by omega⟩
          simp only [Int.toNat_natCast] at u2 u3 u4 u5 w3 kl
          have tx : ∀ a j, 4 ≤ a ∧ a ≤ 7 → (a = 4 ∧ 3 ≤ j) ∨ (a = 5 ∧ 100 ≤ j) ∨ (a = 6 ∧ 242 ≤ j) ∨ (a = 7 ∧ 104 ≤ j) → g2 a j = g a j := fun a j x1 x2 => by
            rw [w3 a j x1]
            unfold txS
            rw [if_neg (by omega), if_neg (by omega), if_neg (by omega), if_neg (by omega)]
          refine ⟨_, _, _, e1, e2, P2, Q2, R0.kp (of := of) (k := k) (t := S.2) (by omega) (by omega) kl l41 s10 (by rw [c2, d2]) (by rw [c3, d3]) u2 u3 u4 u5 w3, RI0.fr hL fI f2 s34 (fun j _ => s0 j) s123 (fun j x => tx 4 j (by omega) (by omega)) (fun j x => tx 5 j (by omega) (by omega)) (fun j x => tx 6 j (by omega) (by omega)) (fun j x => tx 7 j (by omega) (by omega))⟩
end
section
/-! images: made and gone back to -/
theorem RR.c0 {F : Prop} {h g : yH} (R : RR F h g) (hL : lnI h) (hm : h 4 1 ≤ 600) : RR F h (zup g 35 0 0) := by
  obtain ⟨hP, gP, R0, RI0⟩ := R
  exact ⟨hP, gP.fr (fun j hj => by rw [zup_ne (by omega)]), R0.fr (fun _ _ _ _ => rfl) (fun j _ _ => by rw [zup_ne (by omega)]) ⟨by rw [zup_ne (by omega)], by rw [zup_ne (by omega)], by rw [zup_ne (by omega)]⟩ (fun j _ _ => by rw [zup_ne (by omega)]) (fun j _ _ => by rw [zup_ne (by omega)]) (fun j _ _ => by rw [zup_ne (by omega)]) (fun j _ _ => by rw [zup_ne (by omega)]) hm, RI0.fr hL (fun _ _ _ => rfl) (fun _ => rfl) (fun j => by rw [zup_ne (by omega)]) (fun j _ => by rw [zup_ne (by omega)]) (fun a j _ _ => by rw [zup_ne (by omega)]) (fun j _ => by rw [zup_ne (by omega)]) (fun j _ => by rw [zup_ne (by omega)]) (fun j _ => by rw [zup_ne (by omega)]) (fun j _ => by rw [zup_ne (by omega)])⟩
theorem cPL_b : ∀ p ∈ cPL, p.1 ≤ 200 := by decide +kernel
theorem cPL_t : ∀ p ∈ cPL, (p.1 < 3 ∨ 80 ≤ p.1) ∨ ∃ q ∈ cPLb, q.1 = p.1 ∧ q.2.1 = p.2.1 ∧ (q.2.2 : Int) = p.2.2 := by decide +kernel
/-- the reference's block stays -/
theorem RB.ra {F : Prop} {B κ f t : Nat} {h h2 g g2 : yH} (R : RB F B κ h g) (hκ : κ ≠ t) (hc : ∀ a j, B + 3 ≤ a → a ≤ B + 79 → h2 a j = h a j) (hr : raR f t g g2) (hl : h (B + 4) 1 ≤ 600) : RB F B κ h2 g2 := by
  obtain ⟨-, -, -, -, -, -, -, -, s0, s1, s4, s5, s6, s7, -⟩ := hr
  exact R.fr hc (fun j _ _ => s0 j (by omega)) ⟨s1 1 κ (by omega) hκ, s1 2 κ (by omega) hκ, s1 3 κ (by omega) hκ⟩ (fun j _ _ => s4 j (by omega)) (fun j _ _ => s5 j (by omega)) (fun j _ _ => s6 j (by omega)) (fun j _ _ => s7 j (by omega)) hl
theorem RB.k34 {F : Prop} {B κ k : Nat} {x : Int} {h g : yH} (R : RB F B κ h g) (hl : h (B + 4) 1 ≤ 600) : RB F B κ h (zup g 34 k x) := R.fr (fun _ _ _ _ => rfl) (fun j _ _ => by rw [zup_ne (by omega)]) ⟨by rw [zup_ne (by omega)], by rw [zup_ne (by omega)], by rw [zup_ne (by omega)]⟩ (fun j _ _ => by rw [zup_ne (by omega)]) (fun j _ _ => by rw [zup_ne (by omega)]) (fun j _ _ => by rw [zup_ne (by omega)]) (fun j _ _ => by rw [zup_ne (by omega)]) hl
/-- what holds where image k is there as a cell, whatever it tells -/
def RX (F : Prop) (k : Nat) (h g : yH) : Prop := cP h ∧ rP g ∧ RB F 0 0 h g ∧ (∀ i, i < 3 → i ≠ k → (g 34 i = 0 ∧ h 2 i = -1) ∨ (g 34 i = 1 ∧ h 2 i = ((1000 * (i + 1) + 3 : Nat) : Int) ∧ cPb (1000 * (i + 1)) h ∧ RB F (1000 * (i + 1)) (i + 1) h g)) ∧ h 2 k = ((1000 * (k + 1) + 3 : Nat) : Int) ∧ cPb (1000 * (k + 1)) h
theorem RR.x {F : Prop} {k : Nat} {h g : yH} (R : RR F h g) (hk : k < 3) (h2 : h 2 k ≠ -1) : RX F k h g := by
  obtain ⟨a, b, c, d⟩ := R
  rcases d k hk with q | q
  · exact absurd q.2 h2
  · exact ⟨a, b, c, fun i hi _ => d i hi, q.2.1, q.2.2.1⟩
theorem RX_image {F : Prop} {k m : Nat} {h h2 g : yH} (hn : 1000 ≤ m) (hk : k < 3) (R : RX F k h g) (hL : lnI h) (hm : h 4 1 ≤ 600) (gb : rBd g) (p63 : g 35 63 = 34) (hc : tcR (1000 * (k + 1)) 0 h h2) : ∃ g2, f_X12_image m [35, (k : Int)] g = some (1, g2) ∧ RR F h2 g2 := by
  obtain ⟨hP, gP, R0, RI0, hk2, -⟩ := R
  have gP1 : rP (zup g 35 0 0) := gP.fr (fun j hj => by rw [zup_ne (by omega)])
  have gb1 : rBd (zup g 35 0 0) := fun a ha j hj => by
    rw [zup_ne (by omega)]
    exact gb a ha j hj
  have R1 : RB F 0 0 h (zup g 35 0 0) := R0.fr (fun _ _ _ _ => rfl) (fun j _ _ => by rw [zup_ne (by omega)]) ⟨by rw [zup_ne (by omega)], by rw [zup_ne (by omega)], by rw [zup_ne (by omega)]⟩ (fun j _ _ => by rw [zup_ne (by omega)]) (fun j _ _ => by rw [zup_ne (by omega)]) (fun j _ _ => by rw [zup_ne (by omega)]) (fun j _ _ => by rw [zup_ne (by omega)]) hm
  have I1 : ∀ i, i < 3 → i ≠ k → ((zup g 35 0 0) 34 i = 0 ∧ h 2 i = -1) ∨ ((zup g 35 0 0) 34 i = 1 ∧ h 2 i = ((1000 * (i + 1) + 3 : Nat) : Int) ∧ cPb (1000 * (i + 1)) h ∧ RB F (1000 * (i + 1)) (i + 1) h (zup g 35 0 0)) := fun i hi hik => by
    rw [zup_ne (by omega)]
    rcases RI0 i hi hik with q | ⟨q1, q2, q3, q4⟩
    · exact Or.inl q
    · refine Or.inr ⟨q1, q2, q3, q4.fr (fun _ _ _ _ => rfl) (fun j _ _ => by rw [zup_ne (by omega)]) ⟨by rw [zup_ne (by omega)], by rw [zup_ne (by omega)], by rw [zup_ne (by omega)]⟩ (fun j _ _ => by rw [zup_ne (by omega)]) (fun j _ _ => by rw [zup_ne (by omega)]) (fun j _ _ => by rw [zup_ne (by omega)]) (fun j _ _ => by rw [zup_ne (by omega)]) ?_⟩
      rcases hL i hi with q | q
      · exact q
      · rw [q] at q2
        omega
  have p1 : (zup g 35 0 0) 35 63 = 34 := by rw [zup_ne (by omega)]; exact p63
  have e0 : f_X12_image m [35, (k : Int)] g = _ := e_X12_image
  rw [in_t (by omega), xb_some, if_neg (by decide), xg_pos (by omega)] at e0
  generalize zup g 35 0 0 = g1 at *
  obtain ⟨v, g2, e1, hr⟩ := call_e (n := m) (f := 0) (t := k + 1) hn gP1 gb1 (by omega) (by omega) (by omega)
  rw [show ((0 : Nat) : Int) = 0 from rfl, show (((k + 1 : Nat)) : Int) = (k : Int) + 1 by omega] at e1
  have f8 := hr.2.2.2.2.2.2.2.2.2.2.2.2.2.2
  rw [e1, xb_some, xg_pos (by rw [f8 _ _ (by omega)]; exact p1), xg_pos (by omega), Int.toNat_natCast] at e0
  have hcf := hc.2.2.2.2.2.2.2.2.2
  have Bcp : RB F (1000 * (k + 1)) (k + 1) h2 g2 := R1.cp hm hc hr
  have l2 : ∀ i, i < 3 → i ≠ k → h2 (1000 * (i + 1) + 4) 1 = h (1000 * (i + 1) + 4) 1 := fun i hi hik => hcf _ _ (by omega)
  refine ⟨_, e0, hP.fr (fun a j w => hcf _ _ ?_), gP1.fr (fun j hj => by rw [zup_ne (by omega), f8 _ _ (by omega)]), (R1.ra (by omega) (fun a j w1 w2 => hcf _ _ (by omega)) hr hm).k34 (by rw [hcf _ _ (by omega)]; exact hm), fun i hi => ?_⟩
  · obtain ⟨p, hp, e⟩ := List.any_eq_true.mp w
    have e1 : p.1 = a ∧ p.2.1 = j := by simpa using e
    have := cPL_b p hp
    omega
  · have h2i : h2 2 i = h 2 i := hcf _ _ (by omega)
    by_cases hik : i = k
    · subst hik
      refine Or.inr ⟨by rw [zup_at], by rw [h2i]; exact hk2, hc.2.2.2.2.2.2.2.2.1, Bcp.k34 ?_⟩
      rw [hc.1]
      exact hm
    · rw [zup_ne (by omega), f8 _ _ (by omega), h2i]
      rcases I1 i hi hik with q | ⟨q1, q2, q3, q4⟩
      · exact Or.inl q
      · have li : h (1000 * (i + 1) + 4) 1 ≤ 600 := by
          rcases hL i hi with q | q
          · exact q
          · rw [q] at q2
            omega
        exact Or.inr ⟨q1, q2, q3.fr (fun p hp => hcf _ _ (by have := cPLb_b p hp; omega)), (q4.ra (by omega) (fun a j w1 w2 => hcf _ _ (by omega)) hr li).k34 (by rw [l2 i hi hik]; exact li)⟩
theorem RR_imageN {F : Prop} {m : Nat} {x : Int} {h g : yH} (R : RR F h g) (hL : lnI h) (hm : h 4 1 ≤ 600) (hx : ¬ (0 ≤ x ∧ x < 3)) : f_X12_image m [35, x] g = some (0, zup g 35 0 0) ∧ RR F h (zup g 35 0 0) := by
  have e0 : f_X12_image m [35, x] g = _ := e_X12_image
  rw [in_f (by omega), xb_some, if_pos rfl] at e0
  exact ⟨e0, R.c0 hL hm⟩
theorem RR_againN {F : Prop} {m : Nat} {x : Int} {h g : yH} (R : RR F h g) (hL : lnI h) (hm : h 4 1 ≤ 600) (p63 : g 35 63 = 34) (hx : ¬ (0 ≤ x ∧ x < 3) ∨ h 2 x.toNat = -1) : f_X12_again m [35, x] g = some (0, zup g 35 0 0) ∧ RR F h (zup g 35 0 0) := by
  have e0 : f_X12_again m [35, x] g = _ := e_X12_again
  by_cases w : 0 ≤ x ∧ x < 3
  · have h2 : h 2 x.toNat = -1 := hx.resolve_left (fun q => q w)
    have z : g 34 x.toNat = 0 := by
      rcases R.2.2.2 x.toNat (by omega) with q | q
      · exact q.1
      · have := q.2.1
        omega
    rw [in_t (by omega), xb_some, if_neg (by decide), xg_pos (by rw [zup_ne (by omega)]; exact p63), xg_pos w, if_pos (by rw [zup_ne (by omega)]; exact z)] at e0
    exact ⟨e0, R.c0 hL hm⟩
  · rw [in_f (by omega), xb_some, if_pos rfl] at e0
    exact ⟨e0, R.c0 hL hm⟩
theorem RR_again {F : Prop} {k m : Nat} {h h2 g : yH} (hn : 1000 ≤ m) (hk : k < 3) (R : RR F h g) (h2k : h 2 k ≠ -1) (hL : lnI h) (hm : h 4 1 ≤ 600) (gb : rBd g) (p63 : g 35 63 = 34) (hc : tcR 0 (1000 * (k + 1)) h h2) : ∃ g2, f_X12_again m [35, (k : Int)] g = some (1, g2) ∧ RR F h2 g2 := by
  have R1 := R.c0 hL hm
  have gb1 : rBd (zup g 35 0 0) := fun a ha j hj => by
    rw [zup_ne (by omega)]
    exact gb a ha j hj
  have p1 : (zup g 35 0 0) 35 63 = 34 := by rw [zup_ne (by omega)]; exact p63
  have e0 : f_X12_again m [35, (k : Int)] g = _ := e_X12_again
  rw [in_t (by omega), xb_some, if_neg (by decide)] at e0
  generalize zup g 35 0 0 = g1 at *
  obtain ⟨hP, gP1, R0, RI0⟩ := R1
  obtain ⟨v, g2, e1, hr⟩ := call_e (n := m) (f := k + 1) (t := 0) hn gP1 gb1 (by omega) (by omega) (by omega)
  rw [show ((0 : Nat) : Int) = 0 from rfl, show (((k + 1 : Nat)) : Int) = (k : Int) + 1 by omega] at e1
  have f8 := hr.2.2.2.2.2.2.2.2.2.2.2.2.2.2
  have hcf := hc.2.2.2.2.2.2.2.2.2
  rcases RI0 k hk with q | ⟨q1, q2, q3, q4⟩
  · exact absurd q.2 h2k
  · rw [xg_pos p1, xg_pos (by omega), Int.toNat_natCast, if_neg (by rw [q1]; decide), xg_pos (by omega), e1, xb_some] at e0
    have lk : h (1000 * (k + 1) + 4) 1 ≤ 600 := by
      rcases hL k hk with q | q
      · exact q
      · exact absurd q h2k
    refine ⟨_, e0, fun p hp => ?_, gP1.fr (fun j hj => f8 _ _ (by omega)), q4.cp lk hc hr, fun i hi => ?_⟩
    · rcases cPL_t p hp with w | ⟨r, hr1, hr2, hr3, hr4⟩
      · rw [hcf _ _ (by omega)]
        exact hP p hp
      · have := hc.2.2.2.2.2.2.2.2.1 r hr1
        rw [Nat.zero_add, Nat.zero_add, hr2, hr3, hr4] at this
        exact this
    · rw [f8 _ _ (by omega), show h2 2 i = h 2 i from hcf _ _ (by omega)]
      rcases RI0 i hi with w | ⟨w1, w2, w3, w4⟩
      · exact Or.inl w
      · have li : h (1000 * (i + 1) + 4) 1 ≤ 600 := by
          rcases hL i hi with q | q
          · exact q
          · rw [q] at w2
            omega
        exact Or.inr ⟨w1, w2, w3.fr (fun p hp => hcf _ _ (by omega)), w4.ra (by omega) (fun a j u1 u2 => hcf _ _ (by omega)) hr li⟩
end
section
theorem zf_RX12_117 : zFok RX12 zTW vwCl (117, 12, 0, (some .int)) := ⟨RX12, TX12, 64, rfl, zx_12, by decide, zTin 1299 (by decide +kernel) rfl, fun ty h => ⟨rfl, tyX12, tyX12_ok, nmX12, by cases h; rfl⟩⟩
def zc_X12_in : List (Nat × Jvm.ClassFile.Instr × Nat) := [(0, .iload_n 0, 1), (1, .iload_n 1, 1), (2, .if_icmp .lt 12, 3), (5, .iload_n 0, 1), (6, .iload_n 2, 1), (7, .if_icmp .gt 7, 3), (10, .iconst 1, 1), (11, .goto 4, 3), (14, .iconst 0, 1), (15, .ireturn, 1)]
theorem zd_X12_in : ∀ q ∈ zc_X12_in, decode cX12_in q.1 = .ok (q.2.1, q.2.2) := by decide +kernel
set_option maxRecDepth 100000 in
theorem zq_X12_in : lw_tbl[1507]? = some (.code yX12_in cX12_in 3 (some .boolean)) := rfl
theorem zw_X12_in : zMS yX12_in cX12_in 3 (some .boolean) 3 := ⟨⟨zTin 113 (by decide +kernel) rfl, zTin 1507 zq_X12_in rfl, ⟨by decide, by decide⟩, by decide +kernel⟩, zTin 1506 (by decide +kernel) rfl⟩
theorem zl_RX12_129 : Cond.methodLink RX12 129 yX12_in ∈ zTW := zTin 1505 (by decide +kernel) rfl
def zk_X12_in_1 : zCT := ((yX12_in, cX12_in, 3, (some .boolean)), (0, 0), ([(0, 1, 0), (0, 2, 0), (0, 3, 0)], ([(0, 0), (0, 0), (0, 0), (0, 1)], [(0, (0, 1, 0)), (1, (0, 2, 0)), (2, (0, 3, 0))], [], [], [])), [([(0, 0), (0, 0), (0, 0), (0, 1)], [], [(0, 0, 1)], [], [])], [])
def zm_X12_in_1 : zMD := (zc_X12_in, [], ([], []), [], [], [], [])
set_option maxRecDepth 100000 in
theorem zv_X12_in_1 : zmeth zkdm zk_X12_in_1 zm_X12_in_1 200000 1 = true := by decide +kernel
theorem zp_X12_in_1 (l : Launch) : zMet zkdm vwCl zTW zKPr l zk_X12_in_1 := z_met zkpr_ok zTW_good zk_X12_in_1 zm_X12_in_1 200000 1 (by decide +kernel) (by decide +kernel) (by decide +kernel) zv_X12_in_1 zd_X12_in (List.forall_mem_nil _) ⟨(List.forall_mem_nil _), (List.forall_mem_nil _)⟩ (List.forall_mem_nil _) (List.forall_mem_nil _)
def zc_X12_is : List (Nat × Jvm.ClassFile.Instr × Nat) := [(0, .iload_n 2, 1), (1, .iconst 0, 1), (2, .aload_n 0, 1), (3, .getfield 23, 3), (6, .iload_n 1, 1), (7, .iaload, 1), (8, .iconst 1, 1), (9, .isub, 1), (10, .invokestatic 129, 3), (13, .ireturn, 1)]
theorem zd_X12_is : ∀ q ∈ zc_X12_is, decode cX12_is q.1 = .ok (q.2.1, q.2.2) := by decide +kernel
set_option maxRecDepth 100000 in
theorem zq_X12_is : lw_tbl[1515]? = some (.code yX12_is cX12_is 3 (some .boolean)) := rfl
theorem zw_X12_is : zMV yX12_is cX12_is 3 (some .boolean) 2 := ⟨⟨zTin 113 (by decide +kernel) rfl, zTin 1515 zq_X12_is rfl, ⟨by decide, by decide⟩, by decide +kernel⟩, zTin 1514 (by decide +kernel) rfl, zTin 31 (by decide +kernel) rfl⟩
theorem zf_RX12_23 : zFok RX12 zTW vwCl (23, 12, 5, none) := ⟨RX12, TX12, 64, rfl, zx_12, by decide, zTin 1304 (by decide +kernel) rfl, fun _ h => by cases h⟩
def zk_X12_is_0 : zCT := ((yX12_is, cX12_is, 3, (some .boolean)), (1, 22), ([(37, 1, 0), (0, 2, 0), (0, 3, 0)], ([(0, 0), (0, 2147483647), (0, 0), (0, 0), (0, 2147483647), (1, 2)], [(0, (37, 1, 0)), (1, (0, 2, 0)), (2, (0, 3, 0))], [], [((35, 1), 5, (6, 4, 0)), ((4, 4), 0, (0, 5, 0))], [])), [([(0, 0), (0, 2147483647), (0, 0), (0, 0), (0, 2147483647), (1, 2)], [], [(0, 0, 1)], [], [])], [])
theorem zr_X12_is_0 : zRC zkdm vwCl zk_X12_is_0 2 := ⟨by decide +kernel, (37, 1, 0), [(0, 2, 0), (0, 3, 0)], _, TX12, 64, rfl, by decide, by decide +kernel, zkdm_35, rfl, rfl⟩
theorem zt_X12_is_10 : decode cX12_is 10 = .ok (.invokestatic 129, 3) := by decide +kernel
theorem ze_X12_is_0_10 (l : Launch) : ∀ C' ∈ [zk_X12_in_1], zMet zkdm vwCl zTW zKPr l C' ∧ (zCV zkdm vwCl zTW RX12 cX12_is 1 22 10 C' ∨ zCS zTW RX12 cX12_is 1 22 10 C') := (List.forall_mem_cons.mpr ⟨⟨zp_X12_in_1 l, Or.inr (zcs_of zw_X12_in 129 zt_X12_is_10 zl_RX12_129 (by decide +kernel) (by decide +kernel) (by decide +kernel))⟩, (List.forall_mem_nil _)⟩)
def zm_X12_is_0 : zMD := (zc_X12_is, [(23, 12, 5, none)], ([], []), [(10, [zk_X12_in_1])], [], [], [])
set_option maxRecDepth 100000 in
theorem zv_X12_is_0 : zmeth zkdm zk_X12_is_0 zm_X12_is_0 200000 1 = true := by decide +kernel
theorem zp_X12_is_0 (l : Launch) : zMet zkdm vwCl zTW zKPr l zk_X12_is_0 := z_met zkpr_ok zTW_good zk_X12_is_0 zm_X12_is_0 200000 1 (by decide +kernel) (by decide +kernel) (by decide +kernel) zv_X12_is_0 zd_X12_is (List.forall_mem_cons.mpr ⟨zf_RX12_23, (List.forall_mem_nil _)⟩) ⟨(List.forall_mem_nil _), (List.forall_mem_nil _)⟩ (List.forall_mem_cons.mpr ⟨ze_X12_is_0_10 l, (List.forall_mem_nil _)⟩) (List.forall_mem_nil _)
def zc_X12_of : List (Nat × Jvm.ClassFile.Instr × Nat) := [(0, .aload_n 0, 1), (1, .getfield 26, 3), (4, .bipush 50, 2), (6, .aload_n 0, 1), (7, .getfield 282, 3), (10, .imul, 1), (11, .iload_n 1, 1), (12, .iadd, 1), (13, .iaload, 1), (14, .ireturn, 1)]
theorem zd_X12_of : ∀ q ∈ zc_X12_of, decode cX12_of q.1 = .ok (q.2.1, q.2.2) := by decide +kernel
set_option maxRecDepth 100000 in
theorem zq_X12_of : lw_tbl[1628]? = some (.code yX12_of cX12_of 2 (some .int)) := rfl
theorem zw_X12_of : zMV yX12_of cX12_of 2 (some .int) 1 := ⟨⟨zTin 113 (by decide +kernel) rfl, zTin 1628 zq_X12_of rfl, ⟨by decide, by decide⟩, by decide +kernel⟩, zTin 1627 (by decide +kernel) rfl, zTin 52 (by decide +kernel) rfl⟩
theorem zf_RX12_26 : zFok RX12 zTW vwCl (26, 12, 6, none) := ⟨RX12, TX12, 64, rfl, zx_12, by decide, zTin 1305 (by decide +kernel) rfl, fun _ h => by cases h⟩
theorem zf_RX12_282 : zFok RX12 zTW vwCl (282, 12, 23, (some .int)) := ⟨RX12, TX12, 64, rfl, zx_12, by decide, zTin 1322 (by decide +kernel) rfl, fun ty h => ⟨rfl, tyX12, tyX12_ok, nmX12, by cases h; rfl⟩⟩
def zk_X12_of_0 : zCT := ((yX12_of, cX12_of, 2, (some .int)), (0, 0), ([(37, 1, 0), (0, 2, 0)], ([(0, 0), (0, 2147483647), (0, 0), (0, 0), (0, 2147483647), (2, 8), (0, 8)], [(0, (37, 1, 0)), (1, (0, 2, 0))], [], [((35, 1), 23, (0, 3, 0)), ((35, 1), 6, (7, 4, 0)), ((5, 4), 0, (0, 5, 0)), ((5, 4), 50, (0, 6, 0))], [])), [([(0, 0), (0, 2147483647), (0, 0), (0, 0), (0, 2147483647), (2, 8), (0, 8)], [], [(0, 5, 0)], [], [])], [])
theorem zr_X12_of_0 : zRC zkdm vwCl zk_X12_of_0 1 := ⟨by decide +kernel, (37, 1, 0), [(0, 2, 0)], _, TX12, 64, rfl, by decide, by decide +kernel, zkdm_35, rfl, rfl⟩
def zm_X12_of_0 : zMD := (zc_X12_of, [(26, 12, 6, none), (282, 12, 23, some .int)], ([], []), [], [], [], [10])
set_option maxRecDepth 100000 in
theorem zv_X12_of_0 : zmeth zkdm zk_X12_of_0 zm_X12_of_0 200000 1 = true := by decide +kernel
theorem zp_X12_of_0 (l : Launch) : zMet zkdm vwCl zTW zKPr l zk_X12_of_0 := z_met zkpr_ok zTW_good zk_X12_of_0 zm_X12_of_0 200000 1 (by decide +kernel) (by decide +kernel) (by decide +kernel) zv_X12_of_0 zd_X12_of (List.forall_mem_cons.mpr ⟨zf_RX12_26, (List.forall_mem_cons.mpr ⟨zf_RX12_282, (List.forall_mem_nil _)⟩)⟩) ⟨(List.forall_mem_nil _), (List.forall_mem_nil _)⟩ (List.forall_mem_nil _) (List.forall_mem_nil _)
def zk_X12_of_1 : zCT := ((yX12_of, cX12_of, 2, (some .int)), (0, 0), ([(37, 1, 0), (0, 2, 0)], ([(0, 0), (0, 2147483647), (1, 1), (0, 0), (0, 2147483647), (0, 8), (0, 8)], [(0, (37, 1, 0)), (1, (0, 2, 0))], [], [((35, 1), 23, (0, 3, 0)), ((35, 1), 6, (7, 4, 0)), ((5, 4), 1, (0, 5, 0)), ((5, 4), 51, (0, 6, 0))], [])), [([(0, 0), (0, 2147483647), (1, 1), (0, 0), (0, 2147483647), (0, 8), (0, 8)], [], [(0, 5, 0)], [], [])], [])
theorem zr_X12_of_1 : zRC zkdm vwCl zk_X12_of_1 1 := ⟨by decide +kernel, (37, 1, 0), [(0, 2, 0)], _, TX12, 64, rfl, by decide, by decide +kernel, zkdm_35, rfl, rfl⟩
def zm_X12_of_1 : zMD := (zc_X12_of, [(26, 12, 6, none), (282, 12, 23, some .int)], ([], []), [], [], [], [10])
set_option maxRecDepth 100000 in
theorem zv_X12_of_1 : zmeth zkdm zk_X12_of_1 zm_X12_of_1 200000 1 = true := by decide +kernel
theorem zp_X12_of_1 (l : Launch) : zMet zkdm vwCl zTW zKPr l zk_X12_of_1 := z_met zkpr_ok zTW_good zk_X12_of_1 zm_X12_of_1 200000 1 (by decide +kernel) (by decide +kernel) (by decide +kernel) zv_X12_of_1 zd_X12_of (List.forall_mem_cons.mpr ⟨zf_RX12_26, (List.forall_mem_cons.mpr ⟨zf_RX12_282, (List.forall_mem_nil _)⟩)⟩) ⟨(List.forall_mem_nil _), (List.forall_mem_nil _)⟩ (List.forall_mem_nil _) (List.forall_mem_nil _)
def zk_X12_of_2 : zCT := ((yX12_of, cX12_of, 2, (some .int)), (0, 0), ([(37, 1, 0), (0, 2, 0)], ([(0, 0), (0, 2147483647), (2, 2), (0, 0), (0, 2147483647), ((-1), 99), ((-1), 99)], [(0, (37, 1, 0)), (1, (0, 2, 0))], [], [((35, 1), 23, (0, 3, 0)), ((35, 1), 6, (7, 4, 0)), ((5, 4), 2, (0, 5, 0)), ((5, 4), 52, (0, 6, 0))], [])), [([(0, 0), (0, 2147483647), (2, 2), (0, 0), (0, 2147483647), ((-1), 99), ((-1), 99)], [], [(0, 5, 0)], [], [])], [])
theorem zr_X12_of_2 : zRC zkdm vwCl zk_X12_of_2 1 := ⟨by decide +kernel, (37, 1, 0), [(0, 2, 0)], _, TX12, 64, rfl, by decide, by decide +kernel, zkdm_35, rfl, rfl⟩
def zm_X12_of_2 : zMD := (zc_X12_of, [(26, 12, 6, none), (282, 12, 23, some .int)], ([], []), [], [], [], [10])
set_option maxRecDepth 100000 in
theorem zv_X12_of_2 : zmeth zkdm zk_X12_of_2 zm_X12_of_2 200000 1 = true := by decide +kernel
theorem zp_X12_of_2 (l : Launch) : zMet zkdm vwCl zTW zKPr l zk_X12_of_2 := z_met zkpr_ok zTW_good zk_X12_of_2 zm_X12_of_2 200000 1 (by decide +kernel) (by decide +kernel) (by decide +kernel) zv_X12_of_2 zd_X12_of (List.forall_mem_cons.mpr ⟨zf_RX12_26, (List.forall_mem_cons.mpr ⟨zf_RX12_282, (List.forall_mem_nil _)⟩)⟩) ⟨(List.forall_mem_nil _), (List.forall_mem_nil _)⟩ (List.forall_mem_nil _) (List.forall_mem_nil _)
def zk_X12_of_3 : zCT := ((yX12_of, cX12_of, 2, (some .int)), (0, 0), ([(37, 1, 0), (0, 2, 0)], ([(0, 0), (0, 2147483647), (3, 3), (0, 0), (0, 2147483647), ((-1), 99), ((-1), 99)], [(0, (37, 1, 0)), (1, (0, 2, 0))], [], [((35, 1), 23, (0, 3, 0)), ((35, 1), 6, (7, 4, 0)), ((5, 4), 3, (0, 5, 0)), ((5, 4), 53, (0, 6, 0))], [])), [([(0, 0), (0, 2147483647), (3, 3), (0, 0), (0, 2147483647), ((-1), 99), ((-1), 99)], [], [(0, 5, 0)], [], [])], [])
theorem zr_X12_of_3 : zRC zkdm vwCl zk_X12_of_3 1 := ⟨by decide +kernel, (37, 1, 0), [(0, 2, 0)], _, TX12, 64, rfl, by decide, by decide +kernel, zkdm_35, rfl, rfl⟩
def zm_X12_of_3 : zMD := (zc_X12_of, [(26, 12, 6, none), (282, 12, 23, some .int)], ([], []), [], [], [], [10])
set_option maxRecDepth 100000 in
theorem zv_X12_of_3 : zmeth zkdm zk_X12_of_3 zm_X12_of_3 200000 1 = true := by decide +kernel
theorem zp_X12_of_3 (l : Launch) : zMet zkdm vwCl zTW zKPr l zk_X12_of_3 := z_met zkpr_ok zTW_good zk_X12_of_3 zm_X12_of_3 200000 1 (by decide +kernel) (by decide +kernel) (by decide +kernel) zv_X12_of_3 zd_X12_of (List.forall_mem_cons.mpr ⟨zf_RX12_26, (List.forall_mem_cons.mpr ⟨zf_RX12_282, (List.forall_mem_nil _)⟩)⟩) ⟨(List.forall_mem_nil _), (List.forall_mem_nil _)⟩ (List.forall_mem_nil _) (List.forall_mem_nil _)
def zk_X12_of_4 : zCT := ((yX12_of, cX12_of, 2, (some .int)), (0, 0), ([(37, 1, 0), (0, 2, 0)], ([(0, 0), (0, 2147483647), (5, 5), (0, 0), (0, 2147483647), (0, 4), (0, 4)], [(0, (37, 1, 0)), (1, (0, 2, 0))], [], [((35, 1), 23, (0, 3, 0)), ((35, 1), 6, (7, 4, 0)), ((5, 4), 5, (0, 5, 0)), ((5, 4), 55, (0, 6, 0))], [])), [([(0, 0), (0, 2147483647), (5, 5), (0, 0), (0, 2147483647), (0, 4), (0, 4)], [], [(0, 5, 0)], [], [])], [])
theorem zr_X12_of_4 : zRC zkdm vwCl zk_X12_of_4 1 := ⟨by decide +kernel, (37, 1, 0), [(0, 2, 0)], _, TX12, 64, rfl, by decide, by decide +kernel, zkdm_35, rfl, rfl⟩
def zm_X12_of_4 : zMD := (zc_X12_of, [(26, 12, 6, none), (282, 12, 23, some .int)], ([], []), [], [], [], [10])
set_option maxRecDepth 100000 in
theorem zv_X12_of_4 : zmeth zkdm zk_X12_of_4 zm_X12_of_4 200000 1 = true := by decide +kernel
theorem zp_X12_of_4 (l : Launch) : zMet zkdm vwCl zTW zKPr l zk_X12_of_4 := z_met zkpr_ok zTW_good zk_X12_of_4 zm_X12_of_4 200000 1 (by decide +kernel) (by decide +kernel) (by decide +kernel) zv_X12_of_4 zd_X12_of (List.forall_mem_cons.mpr ⟨zf_RX12_26, (List.forall_mem_cons.mpr ⟨zf_RX12_282, (List.forall_mem_nil _)⟩)⟩) ⟨(List.forall_mem_nil _), (List.forall_mem_nil _)⟩ (List.forall_mem_nil _) (List.forall_mem_nil _)
def zk_X12_of_5 : zCT := ((yX12_of, cX12_of, 2, (some .int)), (0, 0), ([(37, 1, 0), (0, 2, 0)], ([(0, 0), (0, 2147483647), (6, 6), (0, 0), (0, 2147483647), (0, 6), (0, 6)], [(0, (37, 1, 0)), (1, (0, 2, 0))], [], [((35, 1), 23, (0, 3, 0)), ((35, 1), 6, (7, 4, 0)), ((5, 4), 6, (0, 5, 0)), ((5, 4), 56, (0, 6, 0))], [])), [([(0, 0), (0, 2147483647), (6, 6), (0, 0), (0, 2147483647), (0, 6), (0, 6)], [], [(0, 5, 0)], [], [])], [])
theorem zr_X12_of_5 : zRC zkdm vwCl zk_X12_of_5 1 := ⟨by decide +kernel, (37, 1, 0), [(0, 2, 0)], _, TX12, 64, rfl, by decide, by decide +kernel, zkdm_35, rfl, rfl⟩
def zm_X12_of_5 : zMD := (zc_X12_of, [(26, 12, 6, none), (282, 12, 23, some .int)], ([], []), [], [], [], [10])
set_option maxRecDepth 100000 in
theorem zv_X12_of_5 : zmeth zkdm zk_X12_of_5 zm_X12_of_5 200000 1 = true := by decide +kernel
theorem zp_X12_of_5 (l : Launch) : zMet zkdm vwCl zTW zKPr l zk_X12_of_5 := z_met zkpr_ok zTW_good zk_X12_of_5 zm_X12_of_5 200000 1 (by decide +kernel) (by decide +kernel) (by decide +kernel) zv_X12_of_5 zd_X12_of (List.forall_mem_cons.mpr ⟨zf_RX12_26, (List.forall_mem_cons.mpr ⟨zf_RX12_282, (List.forall_mem_nil _)⟩)⟩) ⟨(List.forall_mem_nil _), (List.forall_mem_nil _)⟩ (List.forall_mem_nil _) (List.forall_mem_nil _)
def zk_X12_of_6 : zCT := ((yX12_of, cX12_of, 2, (some .int)), (0, 0), ([(37, 1, 0), (0, 2, 0)], ([(0, 0), (0, 2147483647), (31, 31), (0, 0), (0, 2147483647), (0, 63), (0, 63)], [(0, (37, 1, 0)), (1, (0, 2, 0))], [], [((35, 1), 23, (0, 3, 0)), ((35, 1), 6, (7, 4, 0)), ((5, 4), 31, (0, 5, 0)), ((5, 4), 81, (0, 6, 0))], [])), [([(0, 0), (0, 2147483647), (31, 31), (0, 0), (0, 2147483647), (0, 63), (0, 63)], [], [(0, 5, 0)], [], [])], [])
theorem zr_X12_of_6 : zRC zkdm vwCl zk_X12_of_6 1 := ⟨by decide +kernel, (37, 1, 0), [(0, 2, 0)], _, TX12, 64, rfl, by decide, by decide +kernel, zkdm_35, rfl, rfl⟩
def zm_X12_of_6 : zMD := (zc_X12_of, [(26, 12, 6, none), (282, 12, 23, some .int)], ([], []), [], [], [], [10])
set_option maxRecDepth 100000 in
theorem zv_X12_of_6 : zmeth zkdm zk_X12_of_6 zm_X12_of_6 200000 1 = true := by decide +kernel
theorem zp_X12_of_6 (l : Launch) : zMet zkdm vwCl zTW zKPr l zk_X12_of_6 := z_met zkpr_ok zTW_good zk_X12_of_6 zm_X12_of_6 200000 1 (by decide +kernel) (by decide +kernel) (by decide +kernel) zv_X12_of_6 zd_X12_of (List.forall_mem_cons.mpr ⟨zf_RX12_26, (List.forall_mem_cons.mpr ⟨zf_RX12_282, (List.forall_mem_nil _)⟩)⟩) ⟨(List.forall_mem_nil _), (List.forall_mem_nil _)⟩ (List.forall_mem_nil _) (List.forall_mem_nil _)
def zk_X12_of_7 : zCT := ((yX12_of, cX12_of, 2, (some .int)), (0, 0), ([(37, 1, 0), (0, 2, 0)], ([(0, 0), (0, 2147483647), (34, 34), (0, 0), (0, 2147483647), (0, 63), (0, 63)], [(0, (37, 1, 0)), (1, (0, 2, 0))], [], [((35, 1), 23, (0, 3, 0)), ((35, 1), 6, (7, 4, 0)), ((5, 4), 34, (0, 5, 0)), ((5, 4), 84, (0, 6, 0))], [])), [([(0, 0), (0, 2147483647), (34, 34), (0, 0), (0, 2147483647), (0, 63), (0, 63)], [], [(0, 5, 0)], [], [])], [])
theorem zr_X12_of_7 : zRC zkdm vwCl zk_X12_of_7 1 := ⟨by decide +kernel, (37, 1, 0), [(0, 2, 0)], _, TX12, 64, rfl, by decide, by decide +kernel, zkdm_35, rfl, rfl⟩
def zm_X12_of_7 : zMD := (zc_X12_of, [(26, 12, 6, none), (282, 12, 23, some .int)], ([], []), [], [], [], [10])
set_option maxRecDepth 100000 in
theorem zv_X12_of_7 : zmeth zkdm zk_X12_of_7 zm_X12_of_7 200000 1 = true := by decide +kernel
theorem zp_X12_of_7 (l : Launch) : zMet zkdm vwCl zTW zKPr l zk_X12_of_7 := z_met zkpr_ok zTW_good zk_X12_of_7 zm_X12_of_7 200000 1 (by decide +kernel) (by decide +kernel) (by decide +kernel) zv_X12_of_7 zd_X12_of (List.forall_mem_cons.mpr ⟨zf_RX12_26, (List.forall_mem_cons.mpr ⟨zf_RX12_282, (List.forall_mem_nil _)⟩)⟩) ⟨(List.forall_mem_nil _), (List.forall_mem_nil _)⟩ (List.forall_mem_nil _) (List.forall_mem_nil _)
def zk_X12_of_8 : zCT := ((yX12_of, cX12_of, 2, (some .int)), (0, 0), ([(37, 1, 0), (0, 2, 0)], ([(0, 0), (0, 2147483647), (37, 37), (0, 0), (0, 2147483647), (0, 63), (0, 63)], [(0, (37, 1, 0)), (1, (0, 2, 0))], [], [((35, 1), 23, (0, 3, 0)), ((35, 1), 6, (7, 4, 0)), ((5, 4), 37, (0, 5, 0)), ((5, 4), 87, (0, 6, 0))], [])), [([(0, 0), (0, 2147483647), (37, 37), (0, 0), (0, 2147483647), (0, 63), (0, 63)], [], [(0, 5, 0)], [], [])], [])
theorem zr_X12_of_8 : zRC zkdm vwCl zk_X12_of_8 1 := ⟨by decide +kernel, (37, 1, 0), [(0, 2, 0)], _, TX12, 64, rfl, by decide, by decide +kernel, zkdm_35, rfl, rfl⟩
def zm_X12_of_8 : zMD := (zc_X12_of, [(26, 12, 6, none), (282, 12, 23, some .int)], ([], []), [], [], [], [10])
set_option maxRecDepth 100000 in
theorem zv_X12_of_8 : zmeth zkdm zk_X12_of_8 zm_X12_of_8 200000 1 = true := by decide +kernel
theorem zp_X12_of_8 (l : Launch) : zMet zkdm vwCl zTW zKPr l zk_X12_of_8 := z_met zkpr_ok zTW_good zk_X12_of_8 zm_X12_of_8 200000 1 (by decide +kernel) (by decide +kernel) (by decide +kernel) zv_X12_of_8 zd_X12_of (List.forall_mem_cons.mpr ⟨zf_RX12_26, (List.forall_mem_cons.mpr ⟨zf_RX12_282, (List.forall_mem_nil _)⟩)⟩) ⟨(List.forall_mem_nil _), (List.forall_mem_nil _)⟩ (List.forall_mem_nil _) (List.forall_mem_nil _)
def zk_X12_of_9 : zCT := ((yX12_of, cX12_of, 2, (some .int)), (0, 0), ([(37, 1, 0), (0, 2, 0)], ([(0, 0), (0, 2147483647), (40, 40), (0, 0), (0, 2147483647), (0, 63), (0, 63)], [(0, (37, 1, 0)), (1, (0, 2, 0))], [], [((35, 1), 23, (0, 3, 0)), ((35, 1), 6, (7, 4, 0)), ((5, 4), 40, (0, 5, 0)), ((5, 4), 90, (0, 6, 0))], [])), [([(0, 0), (0, 2147483647), (40, 40), (0, 0), (0, 2147483647), (0, 63), (0, 63)], [], [(0, 5, 0)], [], [])], [])
theorem zr_X12_of_9 : zRC zkdm vwCl zk_X12_of_9 1 := ⟨by decide +kernel, (37, 1, 0), [(0, 2, 0)], _, TX12, 64, rfl, by decide, by decide +kernel, zkdm_35, rfl, rfl⟩
def zm_X12_of_9 : zMD := (zc_X12_of, [(26, 12, 6, none), (282, 12, 23, some .int)], ([], []), [], [], [], [10])
set_option maxRecDepth 100000 in
theorem zv_X12_of_9 : zmeth zkdm zk_X12_of_9 zm_X12_of_9 200000 1 = true := by decide +kernel
theorem zp_X12_of_9 (l : Launch) : zMet zkdm vwCl zTW zKPr l zk_X12_of_9 := z_met zkpr_ok zTW_good zk_X12_of_9 zm_X12_of_9 200000 1 (by decide +kernel) (by decide +kernel) (by decide +kernel) zv_X12_of_9 zd_X12_of (List.forall_mem_cons.mpr ⟨zf_RX12_26, (List.forall_mem_cons.mpr ⟨zf_RX12_282, (List.forall_mem_nil _)⟩)⟩) ⟨(List.forall_mem_nil _), (List.forall_mem_nil _)⟩ (List.forall_mem_nil _) (List.forall_mem_nil _)
def zk_X12_of_10 : zCT := ((yX12_of, cX12_of, 2, (some .int)), (0, 0), ([(37, 1, 0), (0, 2, 0)], ([(0, 0), (0, 2147483647), (43, 43), (0, 0), (0, 2147483647), (0, 63), (0, 63)], [(0, (37, 1, 0)), (1, (0, 2, 0))], [], [((35, 1), 23, (0, 3, 0)), ((35, 1), 6, (7, 4, 0)), ((5, 4), 43, (0, 5, 0)), ((5, 4), 93, (0, 6, 0))], [])), [([(0, 0), (0, 2147483647), (43, 43), (0, 0), (0, 2147483647), (0, 63), (0, 63)], [], [(0, 5, 0)], [], [])], [])
theorem zr_X12_of_10 : zRC zkdm vwCl zk_X12_of_10 1 := ⟨by decide +kernel, (37, 1, 0), [(0, 2, 0)], _, TX12, 64, rfl, by decide, by decide +kernel, zkdm_35, rfl, rfl⟩
def zm_X12_of_10 : zMD := (zc_X12_of, [(26, 12, 6, none), (282, 12, 23, some .int)], ([], []), [], [], [], [10])
set_option maxRecDepth 100000 in
theorem zv_X12_of_10 : zmeth zkdm zk_X12_of_10 zm_X12_of_10 200000 1 = true := by decide +kernel
theorem zp_X12_of_10 (l : Launch) : zMet zkdm vwCl zTW zKPr l zk_X12_of_10 := z_met zkpr_ok zTW_good zk_X12_of_10 zm_X12_of_10 200000 1 (by decide +kernel) (by decide +kernel) (by decide +kernel) zv_X12_of_10 zd_X12_of (List.forall_mem_cons.mpr ⟨zf_RX12_26, (List.forall_mem_cons.mpr ⟨zf_RX12_282, (List.forall_mem_nil _)⟩)⟩) ⟨(List.forall_mem_nil _), (List.forall_mem_nil _)⟩ (List.forall_mem_nil _) (List.forall_mem_nil _)
def zk_X12_of_11 : zCT := ((yX12_of, cX12_of, 2, (some .int)), (0, 0), ([(37, 1, 0), (0, 2, 0)], ([(0, 0), (0, 2147483647), (46, 46), (0, 0), (0, 2147483647), (0, 63), (0, 63)], [(0, (37, 1, 0)), (1, (0, 2, 0))], [], [((35, 1), 23, (0, 3, 0)), ((35, 1), 6, (7, 4, 0)), ((5, 4), 46, (0, 5, 0)), ((5, 4), 96, (0, 6, 0))], [])), [([(0, 0), (0, 2147483647), (46, 46), (0, 0), (0, 2147483647), (0, 63), (0, 63)], [], [(0, 5, 0)], [], [])], [])
theorem zr_X12_of_11 : zRC zkdm vwCl zk_X12_of_11 1 := ⟨by decide +kernel, (37, 1, 0), [(0, 2, 0)], _, TX12, 64, rfl, by decide, by decide +kernel, zkdm_35, rfl, rfl⟩
def zm_X12_of_11 : zMD := (zc_X12_of, [(26, 12, 6, none), (282, 12, 23, some .int)], ([], []), [], [], [], [10])
set_option maxRecDepth 100000 in
theorem zv_X12_of_11 : zmeth zkdm zk_X12_of_11 zm_X12_of_11 200000 1 = true := by decide +kernel
theorem zp_X12_of_11 (l : Launch) : zMet zkdm vwCl zTW zKPr l zk_X12_of_11 := z_met zkpr_ok zTW_good zk_X12_of_11 zm_X12_of_11 200000 1 (by decide +kernel) (by decide +kernel) (by decide +kernel) zv_X12_of_11 zd_X12_of (List.forall_mem_cons.mpr ⟨zf_RX12_26, (List.forall_mem_cons.mpr ⟨zf_RX12_282, (List.forall_mem_nil _)⟩)⟩) ⟨(List.forall_mem_nil _), (List.forall_mem_nil _)⟩ (List.forall_mem_nil _) (List.forall_mem_nil _)
def zk_X12_of_12 : zCT := ((yX12_of, cX12_of, 2, (some .int)), (0, 0), ([(37, 1, 0), (0, 2, 0)], ([(0, 0), (0, 2147483647), (32, 32), (0, 0), (0, 2147483647), ((-1), 99), ((-1), 99)], [(0, (37, 1, 0)), (1, (0, 2, 0))], [], [((35, 1), 23, (0, 3, 0)), ((35, 1), 6, (7, 4, 0)), ((5, 4), 32, (0, 5, 0)), ((5, 4), 82, (0, 6, 0))], [])), [([(0, 0), (0, 2147483647), (32, 32), (0, 0), (0, 2147483647), ((-1), 99), ((-1), 99)], [], [(0, 5, 0)], [], [])], [])
theorem zr_X12_of_12 : zRC zkdm vwCl zk_X12_of_12 1 := ⟨by decide +kernel, (37, 1, 0), [(0, 2, 0)], _, TX12, 64, rfl, by decide, by decide +kernel, zkdm_35, rfl, rfl⟩
def zm_X12_of_12 : zMD := (zc_X12_of, [(26, 12, 6, none), (282, 12, 23, some .int)], ([], []), [], [], [], [10])
set_option maxRecDepth 100000 in
theorem zv_X12_of_12 : zmeth zkdm zk_X12_of_12 zm_X12_of_12 200000 1 = true := by decide +kernel
theorem zp_X12_of_12 (l : Launch) : zMet zkdm vwCl zTW zKPr l zk_X12_of_12 := z_met zkpr_ok zTW_good zk_X12_of_12 zm_X12_of_12 200000 1 (by decide +kernel) (by decide +kernel) (by decide +kernel) zv_X12_of_12 zd_X12_of (List.forall_mem_cons.mpr ⟨zf_RX12_26, (List.forall_mem_cons.mpr ⟨zf_RX12_282, (List.forall_mem_nil _)⟩)⟩) ⟨(List.forall_mem_nil _), (List.forall_mem_nil _)⟩ (List.forall_mem_nil _) (List.forall_mem_nil _)
def zk_X12_of_13 : zCT := ((yX12_of, cX12_of, 2, (some .int)), (0, 0), ([(37, 1, 0), (0, 2, 0)], ([(0, 0), (0, 2147483647), (35, 35), (0, 0), (0, 2147483647), ((-1), 99), ((-1), 99)], [(0, (37, 1, 0)), (1, (0, 2, 0))], [], [((35, 1), 23, (0, 3, 0)), ((35, 1), 6, (7, 4, 0)), ((5, 4), 35, (0, 5, 0)), ((5, 4), 85, (0, 6, 0))], [])), [([(0, 0), (0, 2147483647), (35, 35), (0, 0), (0, 2147483647), ((-1), 99), ((-1), 99)], [], [(0, 5, 0)], [], [])], [])
theorem zr_X12_of_13 : zRC zkdm vwCl zk_X12_of_13 1 := ⟨by decide +kernel, (37, 1, 0), [(0, 2, 0)], _, TX12, 64, rfl, by decide, by decide +kernel, zkdm_35, rfl, rfl⟩
def zm_X12_of_13 : zMD := (zc_X12_of, [(26, 12, 6, none), (282, 12, 23, some .int)], ([], []), [], [], [], [10])
set_option maxRecDepth 100000 in
theorem zv_X12_of_13 : zmeth zkdm zk_X12_of_13 zm_X12_of_13 200000 1 = true := by decide +kernel
theorem zp_X12_of_13 (l : Launch) : zMet zkdm vwCl zTW zKPr l zk_X12_of_13 := z_met zkpr_ok zTW_good zk_X12_of_13 zm_X12_of_13 200000 1 (by decide +kernel) (by decide +kernel) (by decide +kernel) zv_X12_of_13 zd_X12_of (List.forall_mem_cons.mpr ⟨zf_RX12_26, (List.forall_mem_cons.mpr ⟨zf_RX12_282, (List.forall_mem_nil _)⟩)⟩) ⟨(List.forall_mem_nil _), (List.forall_mem_nil _)⟩ (List.forall_mem_nil _) (List.forall_mem_nil _)
def zk_X12_of_14 : zCT := ((yX12_of, cX12_of, 2, (some .int)), (0, 0), ([(37, 1, 0), (0, 2, 0)], ([(0, 0), (0, 2147483647), (38, 38), (0, 0), (0, 2147483647), ((-1), 99), ((-1), 99)], [(0, (37, 1, 0)), (1, (0, 2, 0))], [], [((35, 1), 23, (0, 3, 0)), ((35, 1), 6, (7, 4, 0)), ((5, 4), 38, (0, 5, 0)), ((5, 4), 88, (0, 6, 0))], [])), [([(0, 0), (0, 2147483647), (38, 38), (0, 0), (0, 2147483647), ((-1), 99), ((-1), 99)], [], [(0, 5, 0)], [], [])], [])
theorem zr_X12_of_14 : zRC zkdm vwCl zk_X12_of_14 1 := ⟨by decide +kernel, (37, 1, 0), [(0, 2, 0)], _, TX12, 64, rfl, by decide, by decide +kernel, zkdm_35, rfl, rfl⟩
def zm_X12_of_14 : zMD := (zc_X12_of, [(26, 12, 6, none), (282, 12, 23, some .int)], ([], []), [], [], [], [10])
set_option maxRecDepth 100000 in
theorem zv_X12_of_14 : zmeth zkdm zk_X12_of_14 zm_X12_of_14 200000 1 = true := by decide +kernel
theorem zp_X12_of_14 (l : Launch) : zMet zkdm vwCl zTW zKPr l zk_X12_of_14 := z_met zkpr_ok zTW_good zk_X12_of_14 zm_X12_of_14 200000 1 (by decide +kernel) (by decide +kernel) (by decide +kernel) zv_X12_of_14 zd_X12_of (List.forall_mem_cons.mpr ⟨zf_RX12_26, (List.forall_mem_cons.mpr ⟨zf_RX12_282, (List.forall_mem_nil _)⟩)⟩) ⟨(List.forall_mem_nil _), (List.forall_mem_nil _)⟩ (List.forall_mem_nil _) (List.forall_mem_nil _)
def zk_X12_of_15 : zCT := ((yX12_of, cX12_of, 2, (some .int)), (0, 0), ([(37, 1, 0), (0, 2, 0)], ([(0, 0), (0, 2147483647), (41, 41), (0, 0), (0, 2147483647), ((-1), 99), ((-1), 99)], [(0, (37, 1, 0)), (1, (0, 2, 0))], [], [((35, 1), 23, (0, 3, 0)), ((35, 1), 6, (7, 4, 0)), ((5, 4), 41, (0, 5, 0)), ((5, 4), 91, (0, 6, 0))], [])), [([(0, 0), (0, 2147483647), (41, 41), (0, 0), (0, 2147483647), ((-1), 99), ((-1), 99)], [], [(0, 5, 0)], [], [])], [])
theorem zr_X12_of_15 : zRC zkdm vwCl zk_X12_of_15 1 := ⟨by decide +kernel, (37, 1, 0), [(0, 2, 0)], _, TX12, 64, rfl, by decide, by decide +kernel, zkdm_35, rfl, rfl⟩
def zm_X12_of_15 : zMD := (zc_X12_of, [(26, 12, 6, none), (282, 12, 23, some .int)], ([], []), [], [], [], [10])
set_option maxRecDepth 100000 in
theorem zv_X12_of_15 : zmeth zkdm zk_X12_of_15 zm_X12_of_15 200000 1 = true := by decide +kernel
theorem zp_X12_of_15 (l : Launch) : zMet zkdm vwCl zTW zKPr l zk_X12_of_15 := z_met zkpr_ok zTW_good zk_X12_of_15 zm_X12_of_15 200000 1 (by decide +kernel) (by decide +kernel) (by decide +kernel) zv_X12_of_15 zd_X12_of (List.forall_mem_cons.mpr ⟨zf_RX12_26, (List.forall_mem_cons.mpr ⟨zf_RX12_282, (List.forall_mem_nil _)⟩)⟩) ⟨(List.forall_mem_nil _), (List.forall_mem_nil _)⟩ (List.forall_mem_nil _) (List.forall_mem_nil _)
def zk_X12_of_16 : zCT := ((yX12_of, cX12_of, 2, (some .int)), (0, 0), ([(37, 1, 0), (0, 2, 0)], ([(0, 0), (0, 2147483647), (44, 44), (0, 0), (0, 2147483647), ((-1), 99), ((-1), 99)], [(0, (37, 1, 0)), (1, (0, 2, 0))], [], [((35, 1), 23, (0, 3, 0)), ((35, 1), 6, (7, 4, 0)), ((5, 4), 44, (0, 5, 0)), ((5, 4), 94, (0, 6, 0))], [])), [([(0, 0), (0, 2147483647), (44, 44), (0, 0), (0, 2147483647), ((-1), 99), ((-1), 99)], [], [(0, 5, 0)], [], [])], [])
theorem zr_X12_of_16 : zRC zkdm vwCl zk_X12_of_16 1 := ⟨by decide +kernel, (37, 1, 0), [(0, 2, 0)], _, TX12, 64, rfl, by decide, by decide +kernel, zkdm_35, rfl, rfl⟩
def zm_X12_of_16 : zMD := (zc_X12_of, [(26, 12, 6, none), (282, 12, 23, some .int)], ([], []), [], [], [], [10])
set_option maxRecDepth 100000 in
theorem zv_X12_of_16 : zmeth zkdm zk_X12_of_16 zm_X12_of_16 200000 1 = true := by decide +kernel
theorem zp_X12_of_16 (l : Launch) : zMet zkdm vwCl zTW zKPr l zk_X12_of_16 := z_met zkpr_ok zTW_good zk_X12_of_16 zm_X12_of_16 200000 1 (by decide +kernel) (by decide +kernel) (by decide +kernel) zv_X12_of_16 zd_X12_of (List.forall_mem_cons.mpr ⟨zf_RX12_26, (List.forall_mem_cons.mpr ⟨zf_RX12_282, (List.forall_mem_nil _)⟩)⟩) ⟨(List.forall_mem_nil _), (List.forall_mem_nil _)⟩ (List.forall_mem_nil _) (List.forall_mem_nil _)
def zk_X12_of_17 : zCT := ((yX12_of, cX12_of, 2, (some .int)), (0, 0), ([(37, 1, 0), (0, 2, 0)], ([(0, 0), (0, 2147483647), (47, 47), (0, 0), (0, 2147483647), ((-1), 99), ((-1), 99)], [(0, (37, 1, 0)), (1, (0, 2, 0))], [], [((35, 1), 23, (0, 3, 0)), ((35, 1), 6, (7, 4, 0)), ((5, 4), 47, (0, 5, 0)), ((5, 4), 97, (0, 6, 0))], [])), [([(0, 0), (0, 2147483647), (47, 47), (0, 0), (0, 2147483647), ((-1), 99), ((-1), 99)], [], [(0, 5, 0)], [], [])], [])
theorem zr_X12_of_17 : zRC zkdm vwCl zk_X12_of_17 1 := ⟨by decide +kernel, (37, 1, 0), [(0, 2, 0)], _, TX12, 64, rfl, by decide, by decide +kernel, zkdm_35, rfl, rfl⟩
def zm_X12_of_17 : zMD := (zc_X12_of, [(26, 12, 6, none), (282, 12, 23, some .int)], ([], []), [], [], [], [10])
set_option maxRecDepth 100000 in
theorem zv_X12_of_17 : zmeth zkdm zk_X12_of_17 zm_X12_of_17 200000 1 = true := by decide +kernel
theorem zp_X12_of_17 (l : Launch) : zMet zkdm vwCl zTW zKPr l zk_X12_of_17 := z_met zkpr_ok zTW_good zk_X12_of_17 zm_X12_of_17 200000 1 (by decide +kernel) (by decide +kernel) (by decide +kernel) zv_X12_of_17 zd_X12_of (List.forall_mem_cons.mpr ⟨zf_RX12_26, (List.forall_mem_cons.mpr ⟨zf_RX12_282, (List.forall_mem_nil _)⟩)⟩) ⟨(List.forall_mem_nil _), (List.forall_mem_nil _)⟩ (List.forall_mem_nil _) (List.forall_mem_nil _)
def zc_X12_hand : List (Nat × Jvm.ClassFile.Instr × Nat) := [(0, .aload_n 0, 1), (1, .iconst 0, 1), (2, .iload_n 1, 1), (3, .invokevirtual 272, 3), (6, .ifCond .ne 5, 3), (9, .iconst 0, 1), (10, .ireturn, 1), (11, .aload_n 0, 1), (12, .iload_n 1, 1), (13, .putfield 282, 3), (16, .aload_n 0, 1), (17, .aload_n 0, 1), (18, .iconst 0, 1), (19, .invokevirtual 285, 3), (22, .putfield 289, 3), (25, .aload_n 0, 1), (26, .aload_n 0, 1), (27, .iconst 1, 1), (28, .invokevirtual 285, 3), (31, .putfield 292, 3), (34, .aload_n 0, 1), (35, .aload_n 0, 1), (36, .iconst 2, 1), (37, .invokevirtual 285, 3), (40, .putfield 295, 3), (43, .aload_n 0, 1), (44, .aload_n 0, 1), (45, .iconst 3, 1), (46, .invokevirtual 285, 3), (49, .putfield 298, 3), (52, .aload_n 0, 1), (53, .aload_n 0, 1), (54, .iconst 5, 1), (55, .invokevirtual 285, 3), (58, .putfield 301, 3), (61, .aload_n 0, 1), (62, .aload_n 0, 1), (63, .bipush 6, 2), (65, .invokevirtual 285, 3), (68, .putfield 304, 3), (71, .iconst 0, 1), (72, .istore_n 2, 1), (73, .iload_n 2, 1), (74, .aload_n 0, 1), (75, .getfield 304, 3), (78, .if_icmp .ge 43, 3), (81, .aload_n 0, 1), (82, .getfield 41, 3), (85, .iload_n 2, 1), (86, .aload_n 0, 1), (87, .bipush 31, 2), (89, .iconst 3, 1), (90, .iload_n 2, 1), (91, .imul, 1), (92, .iadd, 1), (93, .invokevirtual 285, 3), (96, .iastore, 1), (97, .aload_n 0, 1), (98, .getfield 44, 3), (101, .iload_n 2, 1), (102, .aload_n 0, 1), (103, .bipush 31, 2), (105, .iconst 3, 1), (106, .iload_n 2, 1), (107, .imul, 1), (108, .iadd, 1), (109, .iconst 1, 1), (110, .iadd, 1), (111, .invokevirtual 285, 3), (114, .iastore, 1), (115, .iinc 2 1, 3), (118, .goto (-45), 3), (121, .iconst 1, 1), (122, .ireturn, 1)]
theorem zd_X12_hand : ∀ q ∈ zc_X12_hand, decode cX12_hand q.1 = .ok (q.2.1, q.2.2) := by decide +kernel
set_option maxRecDepth 100000 in
theorem zq_X12_hand : lw_tbl[1624]? = some (.code yX12_hand cX12_hand 3 (some .boolean)) := rfl
theorem zw_X12_hand : zMV yX12_hand cX12_hand 3 (some .boolean) 1 := ⟨⟨zTin 113 (by decide +kernel) rfl, zTin 1624 zq_X12_hand rfl, ⟨by decide, by decide⟩, by decide +kernel⟩, zTin 1623 (by decide +kernel) rfl, zTin 51 (by decide +kernel) rfl⟩
theorem zf_RX12_41 : zFok RX12 zTW vwCl (41, 12, 30, none) := ⟨RX12, TX12, 64, rfl, zx_12, by decide, zTin 1329 (by decide +kernel) rfl, fun _ h => by cases h⟩
theorem zf_RX12_44 : zFok RX12 zTW vwCl (44, 12, 31, none) := ⟨RX12, TX12, 64, rfl, zx_12, by decide, zTin 1330 (by decide +kernel) rfl, fun _ h => by cases h⟩
theorem zf_RX12_289 : zFok RX12 zTW vwCl (289, 12, 24, (some .int)) := ⟨RX12, TX12, 64, rfl, zx_12, by decide, zTin 1323 (by decide +kernel) rfl, fun ty h => ⟨rfl, tyX12, tyX12_ok, nmX12, by cases h; rfl⟩⟩
theorem zf_RX12_292 : zFok RX12 zTW vwCl (292, 12, 25, (some .int)) := ⟨RX12, TX12, 64, rfl, zx_12, by decide, zTin 1324 (by decide +kernel) rfl, fun ty h => ⟨rfl, tyX12, tyX12_ok, nmX12, by cases h; rfl⟩⟩
theorem zf_RX12_295 : zFok RX12 zTW vwCl (295, 12, 26, (some .int)) := ⟨RX12, TX12, 64, rfl, zx_12, by decide, zTin 1325 (by decide +kernel) rfl, fun ty h => ⟨rfl, tyX12, tyX12_ok, nmX12, by cases h; rfl⟩⟩
theorem zf_RX12_298 : zFok RX12 zTW vwCl (298, 12, 27, (some .int)) := ⟨RX12, TX12, 64, rfl, zx_12, by decide, zTin 1326 (by decide +kernel) rfl, fun ty h => ⟨rfl, tyX12, tyX12_ok, nmX12, by cases h; rfl⟩⟩
theorem zf_RX12_301 : zFok RX12 zTW vwCl (301, 12, 29, (some .int)) := ⟨RX12, TX12, 64, rfl, zx_12, by decide, zTin 1328 (by decide +kernel) rfl, fun ty h => ⟨rfl, tyX12, tyX12_ok, nmX12, by cases h; rfl⟩⟩
theorem zf_RX12_304 : zFok RX12 zTW vwCl (304, 12, 28, (some .int)) := ⟨RX12, TX12, 64, rfl, zx_12, by decide, zTin 1327 (by decide +kernel) rfl, fun ty h => ⟨rfl, tyX12, tyX12_ok, nmX12, by cases h; rfl⟩⟩
def zk_X12_hand_0 : zCT := ((yX12_hand, cX12_hand, 3, (some .boolean)), (2, 44), ([(37, 1, 0), (0, 2, 0)], ([(0, 0), (0, 2147483647), (0, 0), (0, 2147483647), (1, 2), (0, 2147483647), (2, 8), (1, 9), (0, 8), (0, 9)], [(0, (37, 1, 0)), (1, (0, 2, 0))], [], [((35, 1), 5, (6, 3, 0)), ((4, 3), 0, (0, 4, 0)), ((35, 1), 6, (7, 5, 0)), ((5, 5), 0, (0, 6, 0)), ((5, 5), 4, (0, 7, 0)), ((5, 5), 50, (0, 8, 0)), ((5, 5), 54, (0, 9, 0))], [])), [([(0, 0), (0, 2147483647), (0, 0), (0, 2147483647), (1, 2), (0, 2147483647), (2, 8), (1, 9), (0, 8), (0, 9)], [], [(0, 0, 1)], [((35, 1), 23, (0, 2, 0)), ((35, 1), 24, (0, 6, 0))], [])], [(10, 0, 5), (11, 0, 5), (35, 23, 29)])
theorem zr_X12_hand_0 : zRC zkdm vwCl zk_X12_hand_0 1 := ⟨by decide +kernel, (37, 1, 0), [(0, 2, 0)], _, TX12, 64, rfl, by decide, by decide +kernel, zkdm_35, rfl, rfl⟩
theorem zl_RX12_272 : Cond.methodLink RX12 272 yX12_is ∈ zTW := zTin 1512 (by decide +kernel) rfl
theorem zt_X12_hand_3 : decode cX12_hand 3 = .ok (.invokevirtual 272, 3) := by decide +kernel
theorem ze_X12_hand_0_3 (l : Launch) : ∀ C' ∈ [zk_X12_is_0], zMet zkdm vwCl zTW zKPr l C' ∧ (zCV zkdm vwCl zTW RX12 cX12_hand 2 44 3 C' ∨ zCS zTW RX12 cX12_hand 2 44 3 C') := (List.forall_mem_cons.mpr ⟨⟨zp_X12_is_0 l, Or.inl (zcv_2 zw_X12_is zr_X12_is_0 272 zt_X12_hand_3 zl_RX12_272 (by decide +kernel) (by decide +kernel))⟩, (List.forall_mem_nil _)⟩)
theorem zl_RX12_285 : Cond.methodLink RX12 285 yX12_of ∈ zTW := zTin 1625 (by decide +kernel) rfl
theorem zt_X12_hand_19 : decode cX12_hand 19 = .ok (.invokevirtual 285, 3) := by decide +kernel
theorem ze_X12_hand_0_19 (l : Launch) : ∀ C' ∈ [zk_X12_of_0], zMet zkdm vwCl zTW zKPr l C' ∧ (zCV zkdm vwCl zTW RX12 cX12_hand 2 44 19 C' ∨ zCS zTW RX12 cX12_hand 2 44 19 C') := (List.forall_mem_cons.mpr ⟨⟨zp_X12_of_0 l, Or.inl (zcv_2 zw_X12_of zr_X12_of_0 285 zt_X12_hand_19 zl_RX12_285 (by decide +kernel) (by decide +kernel))⟩, (List.forall_mem_nil _)⟩)
theorem zt_X12_hand_28 : decode cX12_hand 28 = .ok (.invokevirtual 285, 3) := by decide +kernel
theorem ze_X12_hand_0_28 (l : Launch) : ∀ C' ∈ [zk_X12_of_1], zMet zkdm vwCl zTW zKPr l C' ∧ (zCV zkdm vwCl zTW RX12 cX12_hand 2 44 28 C' ∨ zCS zTW RX12 cX12_hand 2 44 28 C') := (List.forall_mem_cons.mpr ⟨⟨zp_X12_of_1 l, Or.inl (zcv_2 zw_X12_of zr_X12_of_1 285 zt_X12_hand_28 zl_RX12_285 (by decide +kernel) (by decide +kernel))⟩, (List.forall_mem_nil _)⟩)
theorem zt_X12_hand_37 : decode cX12_hand 37 = .ok (.invokevirtual 285, 3) := by decide +kernel
theorem ze_X12_hand_0_37 (l : Launch) : ∀ C' ∈ [zk_X12_of_2], zMet zkdm vwCl zTW zKPr l C' ∧ (zCV zkdm vwCl zTW RX12 cX12_hand 2 44 37 C' ∨ zCS zTW RX12 cX12_hand 2 44 37 C') := (List.forall_mem_cons.mpr ⟨⟨zp_X12_of_2 l, Or.inl (zcv_2 zw_X12_of zr_X12_of_2 285 zt_X12_hand_37 zl_RX12_285 (by decide +kernel) (by decide +kernel))⟩, (List.forall_mem_nil _)⟩)
theorem zt_X12_hand_46 : decode cX12_hand 46 = .ok (.invokevirtual 285, 3) := by decide +kernel
theorem ze_X12_hand_0_46 (l : Launch) : ∀ C' ∈ [zk_X12_of_3], zMet zkdm vwCl zTW zKPr l C' ∧ (zCV zkdm vwCl zTW RX12 cX12_hand 2 44 46 C' ∨ zCS zTW RX12 cX12_hand 2 44 46 C') := (List.forall_mem_cons.mpr ⟨⟨zp_X12_of_3 l, Or.inl (zcv_2 zw_X12_of zr_X12_of_3 285 zt_X12_hand_46 zl_RX12_285 (by decide +kernel) (by decide +kernel))⟩, (List.forall_mem_nil _)⟩)
theorem zt_X12_hand_55 : decode cX12_hand 55 = .ok (.invokevirtual 285, 3) := by decide +kernel
theorem ze_X12_hand_0_55 (l : Launch) : ∀ C' ∈ [zk_X12_of_4], zMet zkdm vwCl zTW zKPr l C' ∧ (zCV zkdm vwCl zTW RX12 cX12_hand 2 44 55 C' ∨ zCS zTW RX12 cX12_hand 2 44 55 C') := (List.forall_mem_cons.mpr ⟨⟨zp_X12_of_4 l, Or.inl (zcv_2 zw_X12_of zr_X12_of_4 285 zt_X12_hand_55 zl_RX12_285 (by decide +kernel) (by decide +kernel))⟩, (List.forall_mem_nil _)⟩)
theorem zt_X12_hand_65 : decode cX12_hand 65 = .ok (.invokevirtual 285, 3) := by decide +kernel
theorem ze_X12_hand_0_65 (l : Launch) : ∀ C' ∈ [zk_X12_of_5], zMet zkdm vwCl zTW zKPr l C' ∧ (zCV zkdm vwCl zTW RX12 cX12_hand 2 44 65 C' ∨ zCS zTW RX12 cX12_hand 2 44 65 C') := (List.forall_mem_cons.mpr ⟨⟨zp_X12_of_5 l, Or.inl (zcv_2 zw_X12_of zr_X12_of_5 285 zt_X12_hand_65 zl_RX12_285 (by decide +kernel) (by decide +kernel))⟩, (List.forall_mem_nil _)⟩)
theorem zt_X12_hand_93 : decode cX12_hand 93 = .ok (.invokevirtual 285, 3) := by decide +kernel
theorem ze_X12_hand_0_93 (l : Launch) : ∀ C' ∈ [zk_X12_of_10, zk_X12_of_11, zk_X12_of_6, zk_X12_of_7, zk_X12_of_8, zk_X12_of_9], zMet zkdm vwCl zTW zKPr l C' ∧ (zCV zkdm vwCl zTW RX12 cX12_hand 2 44 93 C' ∨ zCS zTW RX12 cX12_hand 2 44 93 C') := (List.forall_mem_cons.mpr ⟨⟨zp_X12_of_10 l, Or.inl (zcv_2 zw_X12_of zr_X12_of_10 285 zt_X12_hand_93 zl_RX12_285 (by decide +kernel) (by decide +kernel))⟩, (List.forall_mem_cons.mpr ⟨⟨zp_X12_of_11 l, Or.inl (zcv_2 zw_X12_of zr_X12_of_11 285 zt_X12_hand_93 zl_RX12_285 (by decide +kernel) (by decide +kernel))⟩, (List.forall_mem_cons.mpr ⟨⟨zp_X12_of_6 l, Or.inl (zcv_2 zw_X12_of zr_X12_of_6 285 zt_X12_hand_93 zl_RX12_285 (by decide +kernel) (by decide +kernel))⟩, (List.forall_mem_cons.mpr ⟨⟨zp_X12_of_7 l, Or.inl (zcv_2 zw_X12_of zr_X12_of_7 285 zt_X12_hand_93 zl_RX12_285 (by decide +kernel) (by decide +kernel))⟩, (List.forall_mem_cons.mpr ⟨⟨zp_X12_of_8 l, Or.inl (zcv_2 zw_X12_of zr_X12_of_8 285 zt_X12_hand_93 zl_RX12_285 (by decide +kernel) (by decide +kernel))⟩, (List.forall_mem_cons.mpr ⟨⟨zp_X12_of_9 l, Or.inl (zcv_2 zw_X12_of zr_X12_of_9 285 zt_X12_hand_93 zl_RX12_285 (by decide +kernel) (by decide +kernel))⟩, (List.forall_mem_nil _)⟩)⟩)⟩)⟩)⟩)⟩)
theorem zt_X12_hand_111 : decode cX12_hand 111 = .ok (.invokevirtual 285, 3) := by decide +kernel
theorem ze_X12_hand_0_111 (l : Launch) : ∀ C' ∈ [zk_X12_of_12, zk_X12_of_13, zk_X12_of_14, zk_X12_of_15, zk_X12_of_16, zk_X12_of_17], zMet zkdm vwCl zTW zKPr l C' ∧ (zCV zkdm vwCl zTW RX12 cX12_hand 2 44 111 C' ∨ zCS zTW RX12 cX12_hand 2 44 111 C') := (List.forall_mem_cons.mpr ⟨⟨zp_X12_of_12 l, Or.inl (zcv_2 zw_X12_of zr_X12_of_12 285 zt_X12_hand_111 zl_RX12_285 (by decide +kernel) (by decide +kernel))⟩, (List.forall_mem_cons.mpr ⟨⟨zp_X12_of_13 l, Or.inl (zcv_2 zw_X12_of zr_X12_of_13 285 zt_X12_hand_111 zl_RX12_285 (by decide +kernel) (by decide +kernel))⟩, (List.forall_mem_cons.mpr ⟨⟨zp_X12_of_14 l, Or.inl (zcv_2 zw_X12_of zr_X12_of_14 285 zt_X12_hand_111 zl_RX12_285 (by decide +kernel) (by decide +kernel))⟩, (List.forall_mem_cons.mpr ⟨⟨zp_X12_of_15 l, Or.inl (zcv_2 zw_X12_of zr_X12_of_15 285 zt_X12_hand_111 zl_RX12_285 (by decide +kernel) (by decide +kernel))⟩, (List.forall_mem_cons.mpr ⟨⟨zp_X12_of_16 l, Or.inl (zcv_2 zw_X12_of zr_X12_of_16 285 zt_X12_hand_111 zl_RX12_285 (by decide +kernel) (by decide +kernel))⟩, (List.forall_mem_cons.mpr ⟨⟨zp_X12_of_17 l, Or.inl (zcv_2 zw_X12_of zr_X12_of_17 285 zt_X12_hand_111 zl_RX12_285 (by decide +kernel) (by decide +kernel))⟩, (List.forall_mem_nil _)⟩)⟩)⟩)⟩)⟩)⟩)
def zm_X12_hand_0 : zMD := (zc_X12_hand, [(41, 12, 30, none), (44, 12, 31, none), (282, 12, 23, some .int), (289, 12, 24, some .int), (292, 12, 25, some .int), (295, 12, 26, some .int), (298, 12, 27, some .int), (301, 12, 29, some .int), (304, 12, 28, some .int)], ([], []), [(3, [zk_X12_is_0]), (19, [zk_X12_of_0]), (28, [zk_X12_of_1]), (37, [zk_X12_of_2]), (46, [zk_X12_of_3]), (55, [zk_X12_of_4]), (65, [zk_X12_of_5]), (93, [zk_X12_of_10, zk_X12_of_11, zk_X12_of_6, zk_X12_of_7, zk_X12_of_8, zk_X12_of_9]), (111, [zk_X12_of_12, zk_X12_of_13, zk_X12_of_14, zk_X12_of_15, zk_X12_of_16, zk_X12_of_17])], [], [(73, ([(0, 0), (0, 2147483647), (0, 0), (0, 2147483647), (1, 2), (0, 2147483647), (2, 8), (1, 9), (0, 8), (0, 9), (0, 6), (0, 6), (0, 6), (0, 4), (0, 4), ((-1), 99), ((-1), 99), ((-1), 99), ((-1), 99), (0, 8), (0, 8)], [(0, (37, 1, 0)), (2, (0, 10, 0))], [], [((35, 1), 28, (0, 11, 0)), ((5, 5), 56, (0, 12, 0)), ((5, 5), 6, (0, 11, 0)), ((35, 1), 29, (0, 13, 0)), ((5, 5), 55, (0, 14, 0)), ((5, 5), 5, (0, 13, 0)), ((35, 1), 27, (0, 15, 0)), ((5, 5), 53, (0, 16, 0)), ((5, 5), 3, (0, 15, 0)), ((35, 1), 26, (0, 17, 0)), ((5, 5), 52, (0, 18, 0)), ((5, 5), 2, (0, 17, 0)), ((35, 1), 25, (0, 19, 0)), ((5, 5), 51, (0, 20, 0)), ((5, 5), 1, (0, 19, 0)), ((35, 1), 24, (0, 6, 0)), ((35, 1), 23, (0, 2, 0)), ((35, 1), 5, (6, 3, 0)), ((4, 3), 0, (0, 4, 0)), ((35, 1), 6, (7, 5, 0)), ((5, 5), 0, (0, 6, 0)), ((5, 5), 4, (0, 7, 0)), ((5, 5), 50, (0, 8, 0)), ((5, 5), 54, (0, 9, 0))], []), (10914851928932358, [(10, (-1))]))], [91])
set_option maxRecDepth 100000 in
theorem zv_X12_hand_0 : zmeth zkdm zk_X12_hand_0 zm_X12_hand_0 200000 10914851928932365 = true := by decide +kernel
theorem zp_X12_hand_0 (l : Launch) : zMet zkdm vwCl zTW zKPr l zk_X12_hand_0 := z_met zkpr_ok zTW_good zk_X12_hand_0 zm_X12_hand_0 200000 10914851928932365 (by decide +kernel) (by decide +kernel) (by decide +kernel) zv_X12_hand_0 zd_X12_hand (List.forall_mem_cons.mpr ⟨zf_RX12_41, (List.forall_mem_cons.mpr ⟨zf_RX12_44, (List.forall_mem_cons.mpr ⟨zf_RX12_282, (List.forall_mem_cons.mpr ⟨zf_RX12_289, (List.forall_mem_cons.mpr ⟨zf_RX12_292, (List.forall_mem_cons.mpr ⟨zf_RX12_295, (List.forall_mem_cons.mpr ⟨zf_RX12_298, (List.forall_mem_cons.mpr ⟨zf_RX12_301, (List.forall_mem_cons.mpr ⟨zf_RX12_304, (List.forall_mem_nil _)⟩)⟩)⟩)⟩)⟩)⟩)⟩)⟩)⟩) ⟨(List.forall_mem_nil _), (List.forall_mem_nil _)⟩ (List.forall_mem_cons.mpr ⟨ze_X12_hand_0_3 l, (List.forall_mem_cons.mpr ⟨ze_X12_hand_0_19 l, (List.forall_mem_cons.mpr ⟨ze_X12_hand_0_28 l, (List.forall_mem_cons.mpr ⟨ze_X12_hand_0_37 l, (List.forall_mem_cons.mpr ⟨ze_X12_hand_0_46 l, (List.forall_mem_cons.mpr ⟨ze_X12_hand_0_55 l, (List.forall_mem_cons.mpr ⟨ze_X12_hand_0_65 l, (List.forall_mem_cons.mpr ⟨ze_X12_hand_0_93 l, (List.forall_mem_cons.mpr ⟨ze_X12_hand_0_111 l, (List.forall_mem_nil _)⟩)⟩)⟩)⟩)⟩)⟩)⟩)⟩)⟩) (List.forall_mem_nil _)
theorem zl_RX12_317 : Cond.methodLink RX12 317 yX12_hand ∈ zTW := zTin 1621 (by decide +kernel) rfl
def zk_X12_in_4 : zCT := ((yX12_in, cX12_in, 3, (some .boolean)), (0, 0), ([(0, 1, 0), (0, 2, 0), (0, 3, 0)], ([(0, 0), ((-2147483648), 2147483647), (0, 0), (1, 1)], [(0, (0, 1, 0)), (1, (0, 2, 0)), (2, (0, 3, 0))], [], [], [])), [([(0, 0), (0, 1), (0, 0), (1, 1)], [], [(0, 0, 1)], [], []), ([(0, 0), ((-2147483648), 2147483647), (0, 0), (1, 1)], [], [(0, 0, 0)], [], [])], [])
def zm_X12_in_4 : zMD := (zc_X12_in, [], ([], []), [], [], [], [])
set_option maxRecDepth 100000 in
theorem zv_X12_in_4 : zmeth zkdm zk_X12_in_4 zm_X12_in_4 200000 1 = true := by decide +kernel
theorem zp_X12_in_4 (l : Launch) : zMet zkdm vwCl zTW zKPr l zk_X12_in_4 := z_met zkpr_ok zTW_good zk_X12_in_4 zm_X12_in_4 200000 1 (by decide +kernel) (by decide +kernel) (by decide +kernel) zv_X12_in_4 zd_X12_in (List.forall_mem_nil _) ⟨(List.forall_mem_nil _), (List.forall_mem_nil _)⟩ (List.forall_mem_nil _) (List.forall_mem_nil _)
def zk_X12_is_1 : zCT := ((yX12_is, cX12_is, 3, (some .boolean)), (1, 22), ([(37, 1, 0), (0, 2, 0), (0, 3, 0)], ([(0, 0), (0, 2147483647), (0, 0), (1, 1), (0, 2147483647), (2, 2)], [(0, (37, 1, 0)), (1, (0, 2, 0)), (2, (0, 3, 0))], [], [((35, 1), 5, (6, 4, 0)), ((4, 4), 0, (0, 5, 0))], [])), [([(0, 0), (0, 2147483647), (0, 0), (1, 1), (0, 2147483647), (2, 2)], [], [(0, 0, 0)], [], []), ([(0, 0), (0, 2147483647), (0, 0), (1, 1), (0, 2147483647), (2, 2)], [], [(0, 0, 1)], [], [])], [])
theorem zr_X12_is_1 : zRC zkdm vwCl zk_X12_is_1 2 := ⟨by decide +kernel, (37, 1, 0), [(0, 2, 0), (0, 3, 0)], _, TX12, 64, rfl, by decide, by decide +kernel, zkdm_35, rfl, rfl⟩
theorem ze_X12_is_1_10 (l : Launch) : ∀ C' ∈ [zk_X12_in_4], zMet zkdm vwCl zTW zKPr l C' ∧ (zCV zkdm vwCl zTW RX12 cX12_is 1 22 10 C' ∨ zCS zTW RX12 cX12_is 1 22 10 C') := (List.forall_mem_cons.mpr ⟨⟨zp_X12_in_4 l, Or.inr (zcs_of zw_X12_in 129 zt_X12_is_10 zl_RX12_129 (by decide +kernel) (by decide +kernel) (by decide +kernel))⟩, (List.forall_mem_nil _)⟩)
def zm_X12_is_1 : zMD := (zc_X12_is, [(23, 12, 5, none)], ([], []), [(10, [zk_X12_in_4])], [], [], [])
set_option maxRecDepth 100000 in
theorem zv_X12_is_1 : zmeth zkdm zk_X12_is_1 zm_X12_is_1 200000 1 = true := by decide +kernel
theorem zp_X12_is_1 (l : Launch) : zMet zkdm vwCl zTW zKPr l zk_X12_is_1 := z_met zkpr_ok zTW_good zk_X12_is_1 zm_X12_is_1 200000 1 (by decide +kernel) (by decide +kernel) (by decide +kernel) zv_X12_is_1 zd_X12_is (List.forall_mem_cons.mpr ⟨zf_RX12_23, (List.forall_mem_nil _)⟩) ⟨(List.forall_mem_nil _), (List.forall_mem_nil _)⟩ (List.forall_mem_cons.mpr ⟨ze_X12_is_1_10 l, (List.forall_mem_nil _)⟩) (List.forall_mem_nil _)
def zk_X12_of_20 : zCT := ((yX12_of, cX12_of, 2, (some .int)), (0, 0), ([(37, 1, 0), (0, 2, 0)], ([(0, 0), (0, 2147483647), (0, 0), (1, 1), (0, 2147483647), (0, 8), (2, 8)], [(0, (37, 1, 0)), (1, (0, 2, 0))], [], [((35, 1), 23, (0, 3, 0)), ((35, 1), 6, (7, 4, 0)), ((5, 4), 0, (0, 5, 0)), ((5, 4), 50, (0, 6, 0))], [])), [([(0, 0), (0, 2147483647), (0, 0), (1, 1), (0, 2147483647), (0, 8), (2, 8)], [], [(0, 6, 0)], [], [])], [])
theorem zr_X12_of_20 : zRC zkdm vwCl zk_X12_of_20 1 := ⟨by decide +kernel, (37, 1, 0), [(0, 2, 0)], _, TX12, 64, rfl, by decide, by decide +kernel, zkdm_35, rfl, rfl⟩
def zm_X12_of_20 : zMD := (zc_X12_of, [(26, 12, 6, none), (282, 12, 23, some .int)], ([], []), [], [], [], [10])
set_option maxRecDepth 100000 in
theorem zv_X12_of_20 : zmeth zkdm zk_X12_of_20 zm_X12_of_20 200000 1 = true := by decide +kernel
theorem zp_X12_of_20 (l : Launch) : zMet zkdm vwCl zTW zKPr l zk_X12_of_20 := z_met zkpr_ok zTW_good zk_X12_of_20 zm_X12_of_20 200000 1 (by decide +kernel) (by decide +kernel) (by decide +kernel) zv_X12_of_20 zd_X12_of (List.forall_mem_cons.mpr ⟨zf_RX12_26, (List.forall_mem_cons.mpr ⟨zf_RX12_282, (List.forall_mem_nil _)⟩)⟩) ⟨(List.forall_mem_nil _), (List.forall_mem_nil _)⟩ (List.forall_mem_nil _) (List.forall_mem_nil _)
def zk_X12_of_21 : zCT := ((yX12_of, cX12_of, 2, (some .int)), (0, 0), ([(37, 1, 0), (0, 2, 0)], ([(0, 0), (0, 2147483647), (1, 1), (1, 1), (0, 2147483647), (0, 8), (0, 8)], [(0, (37, 1, 0)), (1, (0, 2, 0))], [], [((35, 1), 23, (0, 3, 0)), ((35, 1), 6, (7, 4, 0)), ((5, 4), 1, (0, 5, 0)), ((5, 4), 51, (0, 6, 0))], [])), [([(0, 0), (0, 2147483647), (1, 1), (1, 1), (0, 2147483647), (0, 8), (0, 8)], [], [(0, 6, 0)], [], [])], [])
theorem zr_X12_of_21 : zRC zkdm vwCl zk_X12_of_21 1 := ⟨by decide +kernel, (37, 1, 0), [(0, 2, 0)], _, TX12, 64, rfl, by decide, by decide +kernel, zkdm_35, rfl, rfl⟩
def zm_X12_of_21 : zMD := (zc_X12_of, [(26, 12, 6, none), (282, 12, 23, some .int)], ([], []), [], [], [], [10])
set_option maxRecDepth 100000 in
theorem zv_X12_of_21 : zmeth zkdm zk_X12_of_21 zm_X12_of_21 200000 1 = true := by decide +kernel
theorem zp_X12_of_21 (l : Launch) : zMet zkdm vwCl zTW zKPr l zk_X12_of_21 := z_met zkpr_ok zTW_good zk_X12_of_21 zm_X12_of_21 200000 1 (by decide +kernel) (by decide +kernel) (by decide +kernel) zv_X12_of_21 zd_X12_of (List.forall_mem_cons.mpr ⟨zf_RX12_26, (List.forall_mem_cons.mpr ⟨zf_RX12_282, (List.forall_mem_nil _)⟩)⟩) ⟨(List.forall_mem_nil _), (List.forall_mem_nil _)⟩ (List.forall_mem_nil _) (List.forall_mem_nil _)
def zk_X12_of_22 : zCT := ((yX12_of, cX12_of, 2, (some .int)), (0, 0), ([(37, 1, 0), (0, 2, 0)], ([(0, 0), (0, 2147483647), (2, 2), (1, 1), (0, 2147483647), ((-1), 99), ((-1), 99)], [(0, (37, 1, 0)), (1, (0, 2, 0))], [], [((35, 1), 23, (0, 3, 0)), ((35, 1), 6, (7, 4, 0)), ((5, 4), 2, (0, 5, 0)), ((5, 4), 52, (0, 6, 0))], [])), [([(0, 0), (0, 2147483647), (2, 2), (1, 1), (0, 2147483647), ((-1), 99), ((-1), 99)], [], [(0, 6, 0)], [], [])], [])
theorem zr_X12_of_22 : zRC zkdm vwCl zk_X12_of_22 1 := ⟨by decide +kernel, (37, 1, 0), [(0, 2, 0)], _, TX12, 64, rfl, by decide, by decide +kernel, zkdm_35, rfl, rfl⟩
def zm_X12_of_22 : zMD := (zc_X12_of, [(26, 12, 6, none), (282, 12, 23, some .int)], ([], []), [], [], [], [10])
set_option maxRecDepth 100000 in
theorem zv_X12_of_22 : zmeth zkdm zk_X12_of_22 zm_X12_of_22 200000 1 = true := by decide +kernel
theorem zp_X12_of_22 (l : Launch) : zMet zkdm vwCl zTW zKPr l zk_X12_of_22 := z_met zkpr_ok zTW_good zk_X12_of_22 zm_X12_of_22 200000 1 (by decide +kernel) (by decide +kernel) (by decide +kernel) zv_X12_of_22 zd_X12_of (List.forall_mem_cons.mpr ⟨zf_RX12_26, (List.forall_mem_cons.mpr ⟨zf_RX12_282, (List.forall_mem_nil _)⟩)⟩) ⟨(List.forall_mem_nil _), (List.forall_mem_nil _)⟩ (List.forall_mem_nil _) (List.forall_mem_nil _)
def zk_X12_of_23 : zCT := ((yX12_of, cX12_of, 2, (some .int)), (0, 0), ([(37, 1, 0), (0, 2, 0)], ([(0, 0), (0, 2147483647), (3, 3), (1, 1), (0, 2147483647), ((-1), 99), ((-1), 99)], [(0, (37, 1, 0)), (1, (0, 2, 0))], [], [((35, 1), 23, (0, 3, 0)), ((35, 1), 6, (7, 4, 0)), ((5, 4), 3, (0, 5, 0)), ((5, 4), 53, (0, 6, 0))], [])), [([(0, 0), (0, 2147483647), (3, 3), (1, 1), (0, 2147483647), ((-1), 99), ((-1), 99)], [], [(0, 6, 0)], [], [])], [])
theorem zr_X12_of_23 : zRC zkdm vwCl zk_X12_of_23 1 := ⟨by decide +kernel, (37, 1, 0), [(0, 2, 0)], _, TX12, 64, rfl, by decide, by decide +kernel, zkdm_35, rfl, rfl⟩
def zm_X12_of_23 : zMD := (zc_X12_of, [(26, 12, 6, none), (282, 12, 23, some .int)], ([], []), [], [], [], [10])
set_option maxRecDepth 100000 in
theorem zv_X12_of_23 : zmeth zkdm zk_X12_of_23 zm_X12_of_23 200000 1 = true := by decide +kernel
theorem zp_X12_of_23 (l : Launch) : zMet zkdm vwCl zTW zKPr l zk_X12_of_23 := z_met zkpr_ok zTW_good zk_X12_of_23 zm_X12_of_23 200000 1 (by decide +kernel) (by decide +kernel) (by decide +kernel) zv_X12_of_23 zd_X12_of (List.forall_mem_cons.mpr ⟨zf_RX12_26, (List.forall_mem_cons.mpr ⟨zf_RX12_282, (List.forall_mem_nil _)⟩)⟩) ⟨(List.forall_mem_nil _), (List.forall_mem_nil _)⟩ (List.forall_mem_nil _) (List.forall_mem_nil _)
def zk_X12_of_24 : zCT := ((yX12_of, cX12_of, 2, (some .int)), (0, 0), ([(37, 1, 0), (0, 2, 0)], ([(0, 0), (0, 2147483647), (5, 5), (1, 1), (0, 2147483647), (0, 4), (0, 4)], [(0, (37, 1, 0)), (1, (0, 2, 0))], [], [((35, 1), 23, (0, 3, 0)), ((35, 1), 6, (7, 4, 0)), ((5, 4), 5, (0, 5, 0)), ((5, 4), 55, (0, 6, 0))], [])), [([(0, 0), (0, 2147483647), (5, 5), (1, 1), (0, 2147483647), (0, 4), (0, 4)], [], [(0, 6, 0)], [], [])], [])
theorem zr_X12_of_24 : zRC zkdm vwCl zk_X12_of_24 1 := ⟨by decide +kernel, (37, 1, 0), [(0, 2, 0)], _, TX12, 64, rfl, by decide, by decide +kernel, zkdm_35, rfl, rfl⟩
def zm_X12_of_24 : zMD := (zc_X12_of, [(26, 12, 6, none), (282, 12, 23, some .int)], ([], []), [], [], [], [10])
set_option maxRecDepth 100000 in
theorem zv_X12_of_24 : zmeth zkdm zk_X12_of_24 zm_X12_of_24 200000 1 = true := by decide +kernel
theorem zp_X12_of_24 (l : Launch) : zMet zkdm vwCl zTW zKPr l zk_X12_of_24 := z_met zkpr_ok zTW_good zk_X12_of_24 zm_X12_of_24 200000 1 (by decide +kernel) (by decide +kernel) (by decide +kernel) zv_X12_of_24 zd_X12_of (List.forall_mem_cons.mpr ⟨zf_RX12_26, (List.forall_mem_cons.mpr ⟨zf_RX12_282, (List.forall_mem_nil _)⟩)⟩) ⟨(List.forall_mem_nil _), (List.forall_mem_nil _)⟩ (List.forall_mem_nil _) (List.forall_mem_nil _)
def zk_X12_of_25 : zCT := ((yX12_of, cX12_of, 2, (some .int)), (0, 0), ([(37, 1, 0), (0, 2, 0)], ([(0, 0), (0, 2147483647), (6, 6), (1, 1), (0, 2147483647), (0, 6), (0, 6)], [(0, (37, 1, 0)), (1, (0, 2, 0))], [], [((35, 1), 23, (0, 3, 0)), ((35, 1), 6, (7, 4, 0)), ((5, 4), 6, (0, 5, 0)), ((5, 4), 56, (0, 6, 0))], [])), [([(0, 0), (0, 2147483647), (6, 6), (1, 1), (0, 2147483647), (0, 6), (0, 6)], [], [(0, 6, 0)], [], [])], [])
theorem zr_X12_of_25 : zRC zkdm vwCl zk_X12_of_25 1 := ⟨by decide +kernel, (37, 1, 0), [(0, 2, 0)], _, TX12, 64, rfl, by decide, by decide +kernel, zkdm_35, rfl, rfl⟩
def zm_X12_of_25 : zMD := (zc_X12_of, [(26, 12, 6, none), (282, 12, 23, some .int)], ([], []), [], [], [], [10])
set_option maxRecDepth 100000 in
theorem zv_X12_of_25 : zmeth zkdm zk_X12_of_25 zm_X12_of_25 200000 1 = true := by decide +kernel
theorem zp_X12_of_25 (l : Launch) : zMet zkdm vwCl zTW zKPr l zk_X12_of_25 := z_met zkpr_ok zTW_good zk_X12_of_25 zm_X12_of_25 200000 1 (by decide +kernel) (by decide +kernel) (by decide +kernel) zv_X12_of_25 zd_X12_of (List.forall_mem_cons.mpr ⟨zf_RX12_26, (List.forall_mem_cons.mpr ⟨zf_RX12_282, (List.forall_mem_nil _)⟩)⟩) ⟨(List.forall_mem_nil _), (List.forall_mem_nil _)⟩ (List.forall_mem_nil _) (List.forall_mem_nil _)
def zk_X12_of_26 : zCT := ((yX12_of, cX12_of, 2, (some .int)), (0, 0), ([(37, 1, 0), (0, 2, 0)], ([(0, 0), (0, 2147483647), (31, 31), (1, 1), (0, 2147483647), (0, 63), (0, 63)], [(0, (37, 1, 0)), (1, (0, 2, 0))], [], [((35, 1), 23, (0, 3, 0)), ((35, 1), 6, (7, 4, 0)), ((5, 4), 31, (0, 5, 0)), ((5, 4), 81, (0, 6, 0))], [])), [([(0, 0), (0, 2147483647), (31, 31), (1, 1), (0, 2147483647), (0, 63), (0, 63)], [], [(0, 6, 0)], [], [])], [])
theorem zr_X12_of_26 : zRC zkdm vwCl zk_X12_of_26 1 := ⟨by decide +kernel, (37, 1, 0), [(0, 2, 0)], _, TX12, 64, rfl, by decide, by decide +kernel, zkdm_35, rfl, rfl⟩
def zm_X12_of_26 : zMD := (zc_X12_of, [(26, 12, 6, none), (282, 12, 23, some .int)], ([], []), [], [], [], [10])
set_option maxRecDepth 100000 in
theorem zv_X12_of_26 : zmeth zkdm zk_X12_of_26 zm_X12_of_26 200000 1 = true := by decide +kernel
theorem zp_X12_of_26 (l : Launch) : zMet zkdm vwCl zTW zKPr l zk_X12_of_26 := z_met zkpr_ok zTW_good zk_X12_of_26 zm_X12_of_26 200000 1 (by decide +kernel) (by decide +kernel) (by decide +kernel) zv_X12_of_26 zd_X12_of (List.forall_mem_cons.mpr ⟨zf_RX12_26, (List.forall_mem_cons.mpr ⟨zf_RX12_282, (List.forall_mem_nil _)⟩)⟩) ⟨(List.forall_mem_nil _), (List.forall_mem_nil _)⟩ (List.forall_mem_nil _) (List.forall_mem_nil _)
def zk_X12_of_27 : zCT := ((yX12_of, cX12_of, 2, (some .int)), (0, 0), ([(37, 1, 0), (0, 2, 0)], ([(0, 0), (0, 2147483647), (34, 34), (1, 1), (0, 2147483647), (0, 63), (0, 63)], [(0, (37, 1, 0)), (1, (0, 2, 0))], [], [((35, 1), 23, (0, 3, 0)), ((35, 1), 6, (7, 4, 0)), ((5, 4), 34, (0, 5, 0)), ((5, 4), 84, (0, 6, 0))], [])), [([(0, 0), (0, 2147483647), (34, 34), (1, 1), (0, 2147483647), (0, 63), (0, 63)], [], [(0, 6, 0)], [], [])], [])
theorem zr_X12_of_27 : zRC zkdm vwCl zk_X12_of_27 1 := ⟨by decide +kernel, (37, 1, 0), [(0, 2, 0)], _, TX12, 64, rfl, by decide, by decide +kernel, zkdm_35, rfl, rfl⟩
def zm_X12_of_27 : zMD := (zc_X12_of, [(26, 12, 6, none), (282, 12, 23, some .int)], ([], []), [], [], [], [10])
set_option maxRecDepth 100000 in
theorem zv_X12_of_27 : zmeth zkdm zk_X12_of_27 zm_X12_of_27 200000 1 = true := by decide +kernel
theorem zp_X12_of_27 (l : Launch) : zMet zkdm vwCl zTW zKPr l zk_X12_of_27 := z_met zkpr_ok zTW_good zk_X12_of_27 zm_X12_of_27 200000 1 (by decide +kernel) (by decide +kernel) (by decide +kernel) zv_X12_of_27 zd_X12_of (List.forall_mem_cons.mpr ⟨zf_RX12_26, (List.forall_mem_cons.mpr ⟨zf_RX12_282, (List.forall_mem_nil _)⟩)⟩) ⟨(List.forall_mem_nil _), (List.forall_mem_nil _)⟩ (List.forall_mem_nil _) (List.forall_mem_nil _)
end
