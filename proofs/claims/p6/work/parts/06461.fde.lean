/-! feed and end of both -/
def fXs (x1 x2 x3 x4 x5 : Int) (q : Nat) : Int := [x1, x2, x3, x4, x5].getD q 0
/-- the bytes that come -/
def fBy (xs : Nat → Int) (i : Nat) : Int := rBy (xs (i / 4)) (i % 4)
def fS (A L l : Nat) (xs : Nat → Int) (m p : Nat) (h g : yH) : Prop := ∀ a j, ¬ (a = L ∧ j = l) → g a j = if a = A ∧ m ≤ j ∧ j < m + 4 * p then fBy xs (j - m) else h a j
theorem fS_0 {A L l : Nat} {xs : Nat → Int} {m : Nat} {h : yH} : fS A L l xs m 0 h h := fun a j _ => by rw [if_neg (by omega)]
theorem fS_s {A L l : Nat} {xs : Nat → Int} {m p : Nat} {x : Int} {by' : Int → Nat → Int} {h g g2 : yH} (hx : xs p = x) (hb : ∀ i, i < 4 → by' x i = rBy x i) (S : fS A L l xs m p h g) (e : ∀ a j, ¬ (a = L ∧ j = l) → g2 a j = if a = A ∧ m + 4 * p ≤ j ∧ j < m + 4 * p + 4 then by' x (j - (m + 4 * p)) else g a j) : fS A L l xs m (p + 1) h g2 := by
  intro a j w
  rw [e a j w]
  by_cases c : a = A ∧ m + 4 * p ≤ j ∧ j < m + 4 * p + 4
  · rw [if_pos c, if_pos (by omega), hb _ (by omega)]
    unfold fBy
    rw [show (j - m) / 4 = p by omega, hx, show (j - m) % 4 = j - (m + 4 * p) by omega]
  · rw [if_neg c, S a j w]
    by_cases c2 : a = A ∧ m ≤ j ∧ j < m + 4 * p
    · rw [if_pos c2, if_pos (by omega)]
    · rw [if_neg c2, if_neg (by omega)]
theorem cBy_b (x : Int) : ∀ i, i < 4 → -128 ≤ cBy x i ∧ cBy x i ≤ 127 := fun _ _ => yi2b_b _
theorem rBy_b (x : Int) : ∀ i, i < 4 → -128 ≤ rBy x i ∧ rBy x i ≤ 127 := fun _ _ => yi2b_b _
theorem put_r {n m : Nat} {x : Int} {h : yH} (hn : 6 ≤ n) (hP : cP h) (h4 : h 4 1 = (m : Int)) (hm : m + 4 ≤ 600) : yR (f_X8_put n [4, x] h) (fun _ h2 => cP h2 ∧ h2 4 1 = (m : Int) + 4 ∧ ∀ a j, ¬ (a = 4 ∧ j = 1) → h2 a j = if a = 5 ∧ m ≤ j ∧ j < m + 4 then cBy x (j - m) else h a j) := by
  obtain ⟨h2, e, r⟩ := put_e (n := n) (x := x) hn hP h4 hm (cBy_b x)
  exact ⟨0, h2, e, r⟩
theorem four_r {n m : Nat} {x : Int} {h : yH} (hn : 6 ≤ n) (hP : rP h) (h4 : h 1 0 = (m : Int)) (hm : m + 4 ≤ 600) : yR (f_X12_four n [35, x] h) (fun _ h2 => rP h2 ∧ h2 1 0 = (m : Int) + 4 ∧ ∀ a j, ¬ (a = 1 ∧ j = 0) → h2 a j = if a = 0 ∧ m ≤ j ∧ j < m + 4 then rBy x (j - m) else h a j) := by
  obtain ⟨h2, e, r⟩ := four_e (n := n) (x := x) hn hP h4 hm (rBy_b x)
  exact ⟨0, h2, e, r⟩
theorem feedC_r {n m : Nat} {x1 x2 x3 x4 x5 : Int} {h : yH} (hn : 6 ≤ n) (hP : cP h) (h4 : h 4 1 = (m : Int)) (hm : m ≤ 600) : yR (f_X11_feed n [1, x1, x2, x3, x4, x5] h) (fun v h2 => cP h2 ∧ ((600 < m + 20 ∧ v = -1 ∧ h2 = h) ∨ (m + 20 ≤ 600 ∧ v = (m : Int) + 20 ∧ h2 4 1 = (m : Int) + 20 ∧ fS 5 4 1 (fXs x1 x2 x3 x4 x5) m 5 h h2))) := by
  refine yR.e e_X11_feed ?_
  refine yR.g (hP.p (by decide)) ?_
  refine yR.g (hP.p (by decide)) ?_
  rw [h4]
  refine yR.g (by omega) ?_
  refine yR.c (fun w => yR.s ⟨hP, Or.inl ⟨by omega, rfl, rfl⟩⟩) (fun w => ?_)
  refine yR.b (put_r (n := n) (m := m + 4 * 0) (x := x1) hn hP (by rw [h4]; omega) (by omega)) (fun _ g1 ⟨P1, l1, e1⟩ => ?_)
  have S1 : fS 5 4 1 (fXs x1 x2 x3 x4 x5) m 1 h g1 := fS_s (p := 0) (x := x1) rfl (fun i hi => by_eq hi) fS_0 e1
  refine yR.b (put_r (n := n) (m := m + 4 * 1) (x := x2) hn P1 (by rw [l1]; omega) (by omega)) (fun _ g2 ⟨P2, l2, e2⟩ => ?_)
  have S2 : fS 5 4 1 (fXs x1 x2 x3 x4 x5) m 2 h g2 := fS_s (p := 1) (x := x2) rfl (fun i hi => by_eq hi) S1 e2
  refine yR.b (put_r (n := n) (m := m + 4 * 2) (x := x3) hn P2 (by rw [l2]; omega) (by omega)) (fun _ g3 ⟨P3, l3, e3⟩ => ?_)
  have S3 : fS 5 4 1 (fXs x1 x2 x3 x4 x5) m 3 h g3 := fS_s (p := 2) (x := x3) rfl (fun i hi => by_eq hi) S2 e3
  refine yR.b (put_r (n := n) (m := m + 4 * 3) (x := x4) hn P3 (by rw [l3]; omega) (by omega)) (fun _ g4 ⟨P4, l4, e4⟩ => ?_)
  have S4 : fS 5 4 1 (fXs x1 x2 x3 x4 x5) m 4 h g4 := fS_s (p := 3) (x := x4) rfl (fun i hi => by_eq hi) S3 e4
  refine yR.b (put_r (n := n) (m := m + 4 * 4) (x := x5) hn P4 (by rw [l4]; omega) (by omega)) (fun _ g5 ⟨P5, l5, e5⟩ => ?_)
  have S5 : fS 5 4 1 (fXs x1 x2 x3 x4 x5) m 5 h g5 := fS_s (p := 4) (x := x5) rfl (fun i hi => by_eq hi) S4 e5
  exact yR.s ⟨P5, Or.inr ⟨by omega, by rw [l5]; omega, by rw [l5]; omega, S5⟩⟩
theorem feedR_r {n m : Nat} {x1 x2 x3 x4 x5 : Int} {h : yH} (hn : 6 ≤ n) (hP : rP h) (h4 : h 1 0 = (m : Int)) (hm : m ≤ 600) : yR (f_X12_feed n [35, x1, x2, x3, x4, x5] h) (fun v h2 => rP h2 ∧ ((600 < m + 20 ∧ v = -1 ∧ h2 = (zup h 35 0 0)) ∨ (m + 20 ≤ 600 ∧ v = (m : Int) + 20 ∧ h2 1 0 = (m : Int) + 20 ∧ fS 0 1 0 (fXs x1 x2 x3 x4 x5) m 5 (zup h 35 0 0) h2))) := by
  refine yR.e e_X12_feed ?_
  refine yR.g hP.2.1 ?_
  rw [h4]
  refine yR.g (by omega) ?_
  have P0 : rP (zup h 35 0 0) := hP.fr (fun j hj => by rw [zup_ne (by omega)])
  have l0 : (zup h 35 0 0) 1 0 = (m : Int) := by rw [zup_ne (by omega)]; exact h4
  refine yR.c (fun w => yR.s ⟨P0, Or.inl ⟨by omega, rfl, rfl⟩⟩) (fun w => ?_)
  generalize zup h 35 0 0 = g0 at P0 l0 ⊢
  refine yR.b (four_r (n := n) (m := m + 4 * 0) (x := x1) hn P0 (by rw [l0]; omega) (by omega)) (fun _ g1 ⟨P1, l1, e1⟩ => ?_)
  have S1 : fS 0 1 0 (fXs x1 x2 x3 x4 x5) m 1 g0 g1 := fS_s (p := 0) (x := x1) rfl (fun i hi => rfl) fS_0 e1
  refine yR.b (four_r (n := n) (m := m + 4 * 1) (x := x2) hn P1 (by rw [l1]; omega) (by omega)) (fun _ g2 ⟨P2, l2, e2⟩ => ?_)
  have S2 : fS 0 1 0 (fXs x1 x2 x3 x4 x5) m 2 g0 g2 := fS_s (p := 1) (x := x2) rfl (fun i hi => rfl) S1 e2
  refine yR.b (four_r (n := n) (m := m + 4 * 2) (x := x3) hn P2 (by rw [l2]; omega) (by omega)) (fun _ g3 ⟨P3, l3, e3⟩ => ?_)
  have S3 : fS 0 1 0 (fXs x1 x2 x3 x4 x5) m 3 g0 g3 := fS_s (p := 2) (x := x3) rfl (fun i hi => rfl) S2 e3
  refine yR.b (four_r (n := n) (m := m + 4 * 3) (x := x4) hn P3 (by rw [l3]; omega) (by omega)) (fun _ g4 ⟨P4, l4, e4⟩ => ?_)
  have S4 : fS 0 1 0 (fXs x1 x2 x3 x4 x5) m 4 g0 g4 := fS_s (p := 3) (x := x4) rfl (fun i hi => rfl) S3 e4
  refine yR.b (four_r (n := n) (m := m + 4 * 4) (x := x5) hn P4 (by rw [l4]; omega) (by omega)) (fun _ g5 ⟨P5, l5, e5⟩ => ?_)
  have S5 : fS 0 1 0 (fXs x1 x2 x3 x4 x5) m 5 g0 g5 := fS_s (p := 4) (x := x5) rfl (fun i hi => rfl) S4 e5
  refine yR.g P5.2.1 ?_
  exact yR.s ⟨P5, Or.inr ⟨by omega, by rw [l5]; omega, by rw [l5]; omega, S5⟩⟩
theorem endC_r {n : Nat} {x : Int} {h : yH} (hP : cP h) (hm : 0 ≤ h 4 1 ∧ h 4 1 ≤ 600) : yR (f_X11_end n [1, x] h) (fun v h2 => (¬ (0 ≤ x ∧ x ≤ h 4 1) ∧ v = -1 ∧ h2 = h) ∨ ((0 ≤ x ∧ x ≤ h 4 1) ∧ v = x ∧ h2 = zup h 4 1 x)) := by
  refine yR.e e_X11_end ?_
  refine yR.c (fun w => yR.s (Or.inl ⟨by omega, rfl, rfl⟩)) (fun w => ?_)
  refine yR.g (hP.p (by decide)) ?_
  refine yR.g (hP.p (by decide)) ?_
  refine yR.c (fun w2 => yR.s (Or.inl ⟨by omega, rfl, rfl⟩)) (fun w2 => ?_)
  refine yR.g (hP.p (by decide)) ?_
  refine yR.g (hP.p (by decide)) ?_
  refine yR.g (by omega) ?_
  exact yR.s (Or.inr ⟨by omega, rfl, rfl⟩)
theorem endR_r {n : Nat} {x : Int} {h : yH} (hP : rP h) (hm : 0 ≤ h 1 0 ∧ h 1 0 ≤ 600) : yR (f_X12_end n [35, x] h) (fun v h2 => (¬ (0 ≤ x ∧ x ≤ h 1 0) ∧ v = -1 ∧ h2 = zup h 35 0 0) ∨ ((0 ≤ x ∧ x ≤ h 1 0) ∧ v = x ∧ h2 = zup (zup h 35 0 0) 1 0 x)) := by
  refine yR.e e_X12_end ?_
  refine yR.g hP.2.1 ?_
  by_cases w : 0 ≤ x ∧ x ≤ h 1 0
  · rw [in_t w, xb_some]
    refine yR.f (by decide) ?_
    refine yR.g (by rw [zup_ne (by omega)]; exact hP.2.1) ?_
    refine yR.g (by omega) ?_
    exact yR.s (Or.inr ⟨w, rfl, rfl⟩)
  · rw [in_f w, xb_some]
    refine yR.t rfl ?_
    exact yR.s (Or.inl ⟨w, rfl, rfl⟩)
