section
/-! what a function leaves: of a stretch, of its pieces -/
def yR (r : yO) (P : Int → yH → Prop) : Prop := ∃ v h2, r = some (v, h2) ∧ P v h2
theorem yR.s {v : Int} {h : yH} {P : Int → yH → Prop} (hp : P v h) : yR (some (v, h)) P := ⟨v, h, rfl, hp⟩
theorem yR.g {c : Prop} [Decidable c] {k : yO} {P : Int → yH → Prop} (hc : c) (hk : yR k P) : yR (xg c k) P := by
  rw [xg_pos hc]; exact hk
theorem yR.h {h : yH} {k : yH → yO} {P : Int → yH → Prop} (hk : yR (k h) P) : yR (xh h k) P := hk
theorem yR.b {r : yO} {k : Int → yH → yO} {P Q : Int → yH → Prop} (hr : yR r Q) (hk : ∀ v h1, Q v h1 → yR (k v h1) P) : yR (xb r k) P := by
  obtain ⟨v, h1, rfl, hq⟩ := hr
  exact hk v h1 hq
theorem yR.e {r r' : yO} {P : Int → yH → Prop} (e : r = r') (hk : yR r' P) : yR r P := by rw [e]; exact hk
theorem yR.t {c : Prop} [Decidable c] {a b : yO} {P : Int → yH → Prop} (hc : c) (hk : yR a P) : yR (if c then a else b) P := by
  rw [if_pos hc]; exact hk
theorem yR.f {c : Prop} [Decidable c] {a b : yO} {P : Int → yH → Prop} (hc : ¬ c) (hk : yR b P) : yR (if c then a else b) P := by
  rw [if_neg hc]; exact hk
theorem yR.c {c : Prop} [Decidable c] {a b : yO} {P : Int → yH → Prop} (h1 : c → yR a P) (h2 : ¬ c → yR b P) : yR (if c then a else b) P := by
  by_cases hc : c
  · rw [if_pos hc]; exact h1 hc
  · rw [if_neg hc]; exact h2 hc
theorem yR.m {r : yO} {P Q : Int → yH → Prop} (hr : yR r P) (hm : ∀ v h, P v h → Q v h) : yR r Q := by
  obtain ⟨v, h, e, hp⟩ := hr
  exact ⟨v, h, e, hm v h hp⟩
/-! the class: pointers of what is told, at a base -/
def cPLb : List (Nat × Nat × Nat) := [(3, 0, 4), (3, 1, 6), (3, 2, 7), (3, 3, 8), (3, 4, 9), (4, 0, 5), (7, 0, 20), (7, 1, 30), (8, 0, 40), (8, 1, 50), (9, 0, 60), (9, 1, 70),
  (20, 5, 21), (20, 7, 22), (20, 8, 23), (20, 9, 24), (20, 11, 25), (20, 12, 26), (20, 13, 27), (30, 5, 31), (30, 7, 32), (30, 8, 33), (30, 9, 34), (30, 11, 35), (30, 12, 36), (30, 13, 37),
  (40, 1, 41), (40, 2, 42), (50, 1, 51), (50, 2, 52), (60, 1, 61), (60, 2, 62), (60, 4, 63), (60, 5, 64), (70, 1, 71), (70, 2, 72), (70, 4, 73), (70, 5, 74)]
def cPb (B : Nat) (h : yH) : Prop := ∀ p ∈ cPLb, h (B + p.1) p.2.1 = ((B + p.2.2 : Nat) : Int)
theorem cPb.p {B : Nat} {h : yH} (hc : cPb B h) {a j v : Nat} (hm : (a, j, v) ∈ cPLb) : h (B + a) j = ((B + v : Nat) : Int) := hc _ hm
theorem cPb.fr {B : Nat} {h h2 : yH} (hc : cPb B h) (hf : ∀ p ∈ cPLb, h2 (B + p.1) p.2.1 = h (B + p.1) p.2.1) : cPb B h2 := fun p hp => (hf p hp).trans (hc p hp)
theorem cPLb_b : ∀ p ∈ cPLb, 3 ≤ p.1 ∧ p.1 ≤ 79 := by decide +kernel
theorem cP.b {h : yH} (hc : cP h) : cPb 0 h := by
  intro p hp
  have : ∀ p ∈ cPLb, (p.1, p.2.1, (p.2.2 : Int)) ∈ cPL := by decide +kernel
  have := hc _ (this p hp)
  rw [Nat.zero_add, Nat.zero_add]
  exact this
/-- the source's numbers within their bounds -/
def cBb (B : Nat) (h : yH) : Prop := (0 ≤ h (B + 4) 1 ∧ h (B + 4) 1 ≤ 600) ∧
  (∀ i, i < 2 → (0 ≤ h (B + 20 + 10 * i) 0 ∧ h (B + 20 + 10 * i) 0 ≤ 8) ∧ (0 ≤ h (B + 20 + 10 * i) 1 ∧ h (B + 20 + 10 * i) 1 ≤ 8) ∧ (0 ≤ h (B + 20 + 10 * i) 2 ∧ h (B + 20 + 10 * i) 2 ≤ 3) ∧ (0 ≤ h (B + 20 + 10 * i) 6 ∧ h (B + 20 + 10 * i) 6 ≤ 4) ∧ (0 ≤ h (B + 20 + 10 * i) 10 ∧ h (B + 20 + 10 * i) 10 ≤ 6)) ∧
  (∀ i, i < 2 → 0 ≤ h (B + 40 + 10 * i) 0 ∧ h (B + 40 + 10 * i) 0 ≤ 30) ∧
  (∀ i, i < 2 → (0 ≤ h (B + 60 + 10 * i) 0 ∧ h (B + 60 + 10 * i) 0 ≤ 9) ∧ (0 ≤ h (B + 60 + 10 * i) 3 ∧ h (B + 60 + 10 * i) 3 ≤ 16))
theorem cBb.fr {B : Nat} {h h2 : yH} (hc : cBb B h) (hf : ∀ a j, B + 4 ≤ a → a ≤ B + 79 → h2 a j = h a j) : cBb B h2 := by
  obtain ⟨c1, c2, c3, c4⟩ := hc
  refine ⟨by rw [hf _ _ (by omega) (by omega)]; exact c1, fun i hi => ?_, fun i hi => ?_, fun i hi => ?_⟩
  · rw [hf _ 0 (by omega) (by omega), hf _ 1 (by omega) (by omega), hf _ 2 (by omega) (by omega), hf _ 6 (by omega) (by omega), hf _ 10 (by omega) (by omega)]
    exact c2 i hi
  · rw [hf _ 0 (by omega) (by omega)]
    exact c3 i hi
  · rw [hf _ 0 (by omega) (by omega), hf _ 3 (by omega) (by omega)]
    exact c4 i hi
theorem cPb.off {d s : Nat} {g g2 : yH} (hd : d + 100 ≤ s ∨ s + 100 ≤ d) {lo hi : Nat} (h1 : 3 ≤ lo) (h2 : hi ≤ 79) (Ps : cPb s g) (F : ∀ a j, ¬ (d + lo ≤ a ∧ a ≤ d + hi) → g2 a j = g a j) : cPb s g2 := Ps.fr (fun p hp => F _ _ (by have := cPLb_b p hp; omega))
theorem stepS {d s i n : Nat} {g : yH} (hd : d + 100 ≤ s ∨ s + 100 ≤ d) (hi : i < 2) (Pd : cPb d g) (Ps : cPb s g) (hb : cBb s g) : yR (f_X6_copyFrom n [((d + 20 + 10 * i : Nat) : Int), ((s + 20 + 10 * i : Nat) : Int)] g) (fun _ g2 => (∀ t : Nat → Int, cS (s + 20 + 10 * i) t g → cS (d + 20 + 10 * i) t g2) ∧ (∀ a j, ¬ (d + (20 + 10 * i) ≤ a ∧ a ≤ d + (20 + 7 + 10 * i)) → g2 a j = g a j) ∧ cPb d g2 ∧ cPb s g2 ∧ cBb s g2) := by
  have key : ∃ g2, f_X6_copyFrom n [((d + 20 + 10 * i : Nat) : Int), ((s + 20 + 10 * i : Nat) : Int)] g = some (0, g2) ∧ (∀ t : Nat → Int, cS (s + 20 + 10 * i) t g → cS (d + 20 + 10 * i) t g2) ∧ ∀ a j, ¬ (d + 20 + 10 * i ≤ a ∧ a ≤ d + 20 + 10 * i + 7) ∨ (a = d + 20 + 10 * i ∧ (j = 5 ∨ j = 7 ∨ j = 8 ∨ j = 9 ∨ j = 11 ∨ j = 12 ∨ j = 13)) → g2 a j = g a j := by
    rcases (show i = 0 ∨ i = 1 by omega) with rfl | rfl
    · exact copy6g (by omega) ⟨(Pd.p (a := 20) (j := 5) (v := 20 + 1) (by decide)).trans (by omega), (Pd.p (a := 20) (j := 7) (v := 20 + 2) (by decide)).trans (by omega), (Pd.p (a := 20) (j := 8) (v := 20 + 3) (by decide)).trans (by omega), (Pd.p (a := 20) (j := 9) (v := 20 + 4) (by decide)).trans (by omega), (Pd.p (a := 20) (j := 11) (v := 20 + 5) (by decide)).trans (by omega), (Pd.p (a := 20) (j := 12) (v := 20 + 6) (by decide)).trans (by omega), (Pd.p (a := 20) (j := 13) (v := 20 + 7) (by decide)).trans (by omega)⟩ ⟨(Ps.p (a := 20) (j := 5) (v := 20 + 1) (by decide)).trans (by omega), (Ps.p (a := 20) (j := 7) (v := 20 + 2) (by decide)).trans (by omega), (Ps.p (a := 20) (j := 8) (v := 20 + 3) (by decide)).trans (by omega), (Ps.p (a := 20) (j := 9) (v := 20 + 4) (by decide)).trans (by omega), (Ps.p (a := 20) (j := 11) (v := 20 + 5) (by decide)).trans (by omega), (Ps.p (a := 20) (j := 12) (v := 20 + 6) (by decide)).trans (by omega), (Ps.p (a := 20) (j := 13) (v := 20 + 7) (by decide)).trans (by omega)⟩ (hb.2.1 0 hi)
    · exact copy6g (by omega) ⟨(Pd.p (a := 30) (j := 5) (v := 30 + 1) (by decide)).trans (by omega), (Pd.p (a := 30) (j := 7) (v := 30 + 2) (by decide)).trans (by omega), (Pd.p (a := 30) (j := 8) (v := 30 + 3) (by decide)).trans (by omega), (Pd.p (a := 30) (j := 9) (v := 30 + 4) (by decide)).trans (by omega), (Pd.p (a := 30) (j := 11) (v := 30 + 5) (by decide)).trans (by omega), (Pd.p (a := 30) (j := 12) (v := 30 + 6) (by decide)).trans (by omega), (Pd.p (a := 30) (j := 13) (v := 30 + 7) (by decide)).trans (by omega)⟩ ⟨(Ps.p (a := 30) (j := 5) (v := 30 + 1) (by decide)).trans (by omega), (Ps.p (a := 30) (j := 7) (v := 30 + 2) (by decide)).trans (by omega), (Ps.p (a := 30) (j := 8) (v := 30 + 3) (by decide)).trans (by omega), (Ps.p (a := 30) (j := 9) (v := 30 + 4) (by decide)).trans (by omega), (Ps.p (a := 30) (j := 11) (v := 30 + 5) (by decide)).trans (by omega), (Ps.p (a := 30) (j := 12) (v := 30 + 6) (by decide)).trans (by omega), (Ps.p (a := 30) (j := 13) (v := 30 + 7) (by decide)).trans (by omega)⟩ (hb.2.1 1 hi)
  obtain ⟨g2, e1, e2, e3⟩ := key
  have F : ∀ a j, ¬ (d + (20 + 10 * i) ≤ a ∧ a ≤ d + (20 + 7 + 10 * i)) → g2 a j = g a j := fun a j w => e3 a j (Or.inl (by omega))
  refine ⟨0, g2, e1, e2, F, Pd.fr (fun p hp => ?_), cPb.off hd (by omega) (by omega) Ps F, hb.fr (fun a j w1 w2 => F a j (by omega))⟩
  have key : ∀ p ∈ cPLb, ∀ i : Fin 2, ¬ (20 + 10 * i.val ≤ p.1 ∧ p.1 ≤ 20 + 10 * i.val + 7) ∨ (p.1 = 20 + 10 * i.val ∧ (p.2.1 = 5 ∨ p.2.1 = 7 ∨ p.2.1 = 8 ∨ p.2.1 = 9 ∨ p.2.1 = 11 ∨ p.2.1 = 12 ∨ p.2.1 = 13)) := by decide +kernel
  rcases key p hp ⟨i, hi⟩ with w | w
  · exact e3 _ _ (Or.inl (by simp only at w; omega))
  · exact e3 _ _ (Or.inr ⟨by have := w.1; simp only at this; omega, w.2⟩)
theorem stepD {d s i n : Nat} {g : yH} (hd : d + 100 ≤ s ∨ s + 100 ≤ d) (hi : i < 2) (Pd : cPb d g) (Ps : cPb s g) (hb : cBb s g) : yR (f_X1_copyFrom n [((d + 40 + 10 * i : Nat) : Int), ((s + 40 + 10 * i : Nat) : Int)] g) (fun _ g2 => (∀ t : Nat → Int, cD (s + 40 + 10 * i) t g → cD (d + 40 + 10 * i) t g2) ∧ (∀ a j, ¬ (d + (40 + 10 * i) ≤ a ∧ a ≤ d + (40 + 7 + 10 * i)) → g2 a j = g a j) ∧ cPb d g2 ∧ cPb s g2 ∧ cBb s g2) := by
  have key : ∃ g2, f_X1_copyFrom n [((d + 40 + 10 * i : Nat) : Int), ((s + 40 + 10 * i : Nat) : Int)] g = some (0, g2) ∧ (∀ t : Nat → Int, cD (s + 40 + 10 * i) t g → cD (d + 40 + 10 * i) t g2) ∧ ∀ a j, ¬ (d + 40 + 10 * i ≤ a ∧ a ≤ d + 40 + 10 * i + 7) ∨ (a = d + 40 + 10 * i ∧ (j = 1 ∨ j = 2)) → g2 a j = g a j := by
    rcases (show i = 0 ∨ i = 1 by omega) with rfl | rfl
    · exact copy1g (by omega) ⟨(Pd.p (a := 40) (j := 1) (v := 40 + 1) (by decide)).trans (by omega), (Pd.p (a := 40) (j := 2) (v := 40 + 2) (by decide)).trans (by omega)⟩ ⟨(Ps.p (a := 40) (j := 1) (v := 40 + 1) (by decide)).trans (by omega), (Ps.p (a := 40) (j := 2) (v := 40 + 2) (by decide)).trans (by omega)⟩ (hb.2.2.1 0 hi)
    · exact copy1g (by omega) ⟨(Pd.p (a := 50) (j := 1) (v := 50 + 1) (by decide)).trans (by omega), (Pd.p (a := 50) (j := 2) (v := 50 + 2) (by decide)).trans (by omega)⟩ ⟨(Ps.p (a := 50) (j := 1) (v := 50 + 1) (by decide)).trans (by omega), (Ps.p (a := 50) (j := 2) (v := 50 + 2) (by decide)).trans (by omega)⟩ (hb.2.2.1 1 hi)
  obtain ⟨g2, e1, e2, e3⟩ := key
  have F : ∀ a j, ¬ (d + (40 + 10 * i) ≤ a ∧ a ≤ d + (40 + 7 + 10 * i)) → g2 a j = g a j := fun a j w => e3 a j (Or.inl (by omega))
  refine ⟨0, g2, e1, e2, F, Pd.fr (fun p hp => ?_), cPb.off hd (by omega) (by omega) Ps F, hb.fr (fun a j w1 w2 => F a j (by omega))⟩
  have key : ∀ p ∈ cPLb, ∀ i : Fin 2, ¬ (40 + 10 * i.val ≤ p.1 ∧ p.1 ≤ 40 + 10 * i.val + 7) ∨ (p.1 = 40 + 10 * i.val ∧ (p.2.1 = 1 ∨ p.2.1 = 2)) := by decide +kernel
  rcases key p hp ⟨i, hi⟩ with w | w
  · exact e3 _ _ (Or.inl (by simp only at w; omega))
  · exact e3 _ _ (Or.inr ⟨by have := w.1; simp only at this; omega, w.2⟩)
theorem stepQ {d s i n : Nat} {g : yH} (hd : d + 100 ≤ s ∨ s + 100 ≤ d) (hi : i < 2) (Pd : cPb d g) (Ps : cPb s g) (hb : cBb s g) : yR (f_X2_copyFrom n [((d + 60 + 10 * i : Nat) : Int), ((s + 60 + 10 * i : Nat) : Int)] g) (fun _ g2 => (∀ t : Nat → Int, cQ (s + 60 + 10 * i) t g → cQ (d + 60 + 10 * i) t g2) ∧ (∀ a j, ¬ (d + (60 + 10 * i) ≤ a ∧ a ≤ d + (60 + 7 + 10 * i)) → g2 a j = g a j) ∧ cPb d g2 ∧ cPb s g2 ∧ cBb s g2) := by
  have key : ∃ g2, f_X2_copyFrom n [((d + 60 + 10 * i : Nat) : Int), ((s + 60 + 10 * i : Nat) : Int)] g = some (0, g2) ∧ (∀ t : Nat → Int, cQ (s + 60 + 10 * i) t g → cQ (d + 60 + 10 * i) t g2) ∧ ∀ a j, ¬ (d + 60 + 10 * i ≤ a ∧ a ≤ d + 60 + 10 * i + 7) ∨ (a = d + 60 + 10 * i ∧ (j = 1 ∨ j = 2 ∨ j = 4 ∨ j = 5)) → g2 a j = g a j := by
    rcases (show i = 0 ∨ i = 1 by omega) with rfl | rfl
    · exact copy2g (by omega) ⟨(Pd.p (a := 60) (j := 1) (v := 60 + 1) (by decide)).trans (by omega), (Pd.p (a := 60) (j := 2) (v := 60 + 2) (by decide)).trans (by omega), (Pd.p (a := 60) (j := 4) (v := 60 + 3) (by decide)).trans (by omega), (Pd.p (a := 60) (j := 5) (v := 60 + 4) (by decide)).trans (by omega)⟩ ⟨(Ps.p (a := 60) (j := 1) (v := 60 + 1) (by decide)).trans (by omega), (Ps.p (a := 60) (j := 2) (v := 60 + 2) (by decide)).trans (by omega), (Ps.p (a := 60) (j := 4) (v := 60 + 3) (by decide)).trans (by omega), (Ps.p (a := 60) (j := 5) (v := 60 + 4) (by decide)).trans (by omega)⟩ (hb.2.2.2 0 hi)
    · exact copy2g (by omega) ⟨(Pd.p (a := 70) (j := 1) (v := 70 + 1) (by decide)).trans (by omega), (Pd.p (a := 70) (j := 2) (v := 70 + 2) (by decide)).trans (by omega), (Pd.p (a := 70) (j := 4) (v := 70 + 3) (by decide)).trans (by omega), (Pd.p (a := 70) (j := 5) (v := 70 + 4) (by decide)).trans (by omega)⟩ ⟨(Ps.p (a := 70) (j := 1) (v := 70 + 1) (by decide)).trans (by omega), (Ps.p (a := 70) (j := 2) (v := 70 + 2) (by decide)).trans (by omega), (Ps.p (a := 70) (j := 4) (v := 70 + 3) (by decide)).trans (by omega), (Ps.p (a := 70) (j := 5) (v := 70 + 4) (by decide)).trans (by omega)⟩ (hb.2.2.2 1 hi)
  obtain ⟨g2, e1, e2, e3⟩ := key
  have F : ∀ a j, ¬ (d + (60 + 10 * i) ≤ a ∧ a ≤ d + (60 + 7 + 10 * i)) → g2 a j = g a j := fun a j w => e3 a j (Or.inl (by omega))
  refine ⟨0, g2, e1, e2, F, Pd.fr (fun p hp => ?_), cPb.off hd (by omega) (by omega) Ps F, hb.fr (fun a j w1 w2 => F a j (by omega))⟩
  have key : ∀ p ∈ cPLb, ∀ i : Fin 2, ¬ (60 + 10 * i.val ≤ p.1 ∧ p.1 ≤ 60 + 10 * i.val + 7) ∨ (p.1 = 60 + 10 * i.val ∧ (p.2.1 = 1 ∨ p.2.1 = 2 ∨ p.2.1 = 4 ∨ p.2.1 = 5)) := by decide +kernel
  rcases key p hp ⟨i, hi⟩ with w | w
  · exact e3 _ _ (Or.inl (by simp only at w; omega))
  · exact e3 _ _ (Or.inr ⟨by have := w.1; simp only at this; omega, w.2⟩)
/-- what is told at d is as it was at s -/
def tcR (d s : Nat) (h h2 : yH) : Prop := h2 (d + 4) 1 = h (s + 4) 1 ∧ (∀ i : Nat, (i : Int) < h (s + 4) 1 → h2 (d + 5) i = h (s + 5) i) ∧ (∀ j, j < 3 → h2 (d + 6) j = h (s + 6) j) ∧
  (∀ i, i < 2 → ∀ t : Nat → Int, cS (s + 20 + 10 * i) t h → cS (d + 20 + 10 * i) t h2) ∧ (∀ i, i < 2 → ∀ t : Nat → Int, cD (s + 40 + 10 * i) t h → cD (d + 40 + 10 * i) t h2) ∧ (∀ i, i < 2 → ∀ t : Nat → Int, cQ (s + 60 + 10 * i) t h → cQ (d + 60 + 10 * i) t h2) ∧
  h2 (d + 3) 5 = h (s + 3) 5 ∧ h2 (d + 3) 6 = h (s + 3) 6 ∧ cPb d h2 ∧ ∀ a j, ¬ (d + 3 ≤ a ∧ a ≤ d + 79) → h2 a j = h a j
theorem cS.at {b : Nat} {t : Nat → Int} {h h2 : yH} (hf : ∀ a j, b ≤ a → a ≤ b + 7 → h2 a j = h a j) (hs : cS b t h) : cS b t h2 := hs.fr hf
theorem cD.at {b : Nat} {t : Nat → Int} {h h2 : yH} (hf : ∀ a j, b ≤ a → a ≤ b + 7 → h2 a j = h a j) (hs : cD b t h) : cD b t h2 := by
  obtain ⟨h0, h1⟩ := hs
  refine ⟨by rw [hf _ _ (by omega) (by omega)]; exact h0, fun k hk => ?_⟩
  rw [hf _ _ (by omega) (by omega), hf (b + 2) (3 * k) (by omega) (by omega), hf (b + 2) (3 * k + 1) (by omega) (by omega), hf (b + 2) (3 * k + 2) (by omega) (by omega)]
  exact h1 k hk
theorem cQ.at {b : Nat} {t : Nat → Int} {h h2 : yH} (hf : ∀ a j, b ≤ a → a ≤ b + 7 → h2 a j = h a j) (hs : cQ b t h) : cQ b t h2 := by
  obtain ⟨h0, h3, h1, h2'⟩ := hs
  refine ⟨by rw [hf _ _ (by omega) (by omega)]; exact h0, by rw [hf _ _ (by omega) (by omega)]; exact h3, fun k hk => ?_, fun k hk => ?_⟩
  · rw [hf _ _ (by omega) (by omega), hf (b + 2) _ (by omega) (by omega)]
    exact h1 k hk
  · rw [hf _ _ (by omega) (by omega), hf (b + 4) _ (by omega) (by omega)]
    exact h2' k hk
theorem tap_i0 {n : Nat} {h : yH} (Pd : cPb 1000 h) (Ps : cPb 0 h) (hb : 0 ≤ h 4 1 ∧ h 4 1 ≤ 600) : yR (f_X8_copyFrom_i0 n [1004, 4] h) (fun _ h1 => h1 1004 1 = h 4 1 ∧ (∀ i : Nat, (i : Int) < h 4 1 → h1 1005 i = h 5 i) ∧ ∀ a j, ¬ a = 1005 → ¬ (a = 1004 ∧ j = 1) → h1 a j = h a j) := by
  refine yR.e e_X8_copyFrom_i0 ?_
  refine yR.g (Ps.p (a := 4) (j := 0) (v := 5) (by decide)) ?_
  refine yR.g (Pd.p (a := 4) (j := 0) (v := 5) (by decide)) ?_
  refine yR.g (by omega) ?_
  refine yR.h ?_
  have e1 : zcy h 1005 5 0 0 (h 4 1).toNat 4 1 = h 4 1 := by rw [zcy_app, if_neg (by omega)]
  refine yR.g (by rw [e1]; exact hb) ?_
  refine yR.s ⟨by rw [zup_at, e1], fun i hi => by rw [zup_ne (by omega), zcy_app, if_pos (by omega), show 0 + (i - 0) = i by omega], fun a j w1 w2 => by rw [zup_ne w2, zcy_app, if_neg (by omega)]⟩
set_option maxRecDepth 10000 in
theorem tcp_i0 {n : Nat} {h : yH} (hn : 3 ≤ n) (Pd : cPb 1000 h) (Ps : cPb 0 h) (hb : cBb 0 h) : yR (f_X9_copyFrom_i0 n [1003, 3] h) (fun _ h2 => tcR 1000 0 h h2) := by
  have hds : 1000 + 100 ≤ 0 ∨ 0 + 100 ≤ 1000 := by decide
  refine yR.e e_X9_copyFrom_i0 ?_
  refine yR.g (Pd.p (a := 3) (j := 0) (v := 4) (by decide)) ?_
  refine yR.g (Ps.p (a := 3) (j := 0) (v := 4) (by decide)) ?_
  refine yR.b (tap_i0 (n := n) Pd Ps hb.1) (fun _ h1 ⟨t1, t2, t3⟩ => ?_)
  have Pd1 : cPb 1000 h1 := Pd.fr (fun p hp => t3 _ _ (by
    have : ∀ p ∈ cPLb, p.1 ≠ 5 := by decide +kernel
    have := this p hp
    omega) (by
    have : ∀ p ∈ cPLb, ¬ (p.1 = 4 ∧ p.2.1 = 1) := by decide +kernel
    have := this p hp
    omega))
  have Fs1 : ∀ a j, 3 ≤ a → a ≤ 0 + 79 → h1 a j = h a j := fun a j w1 w2 => t3 a j (by omega) (by omega)
  have Ps1 : cPb 0 h1 := Ps.fr (fun p hp => Fs1 _ _ (by have := cPLb_b p hp; omega) (by have := cPLb_b p hp; omega))
  refine yR.g (Ps1.p (a := 3) (j := 1) (v := 6) (by decide)) ?_
  refine yR.g (Pd1.p (a := 3) (j := 1) (v := 6) (by decide)) ?_
  refine yR.h ?_
  have z5 : ∀ a j, zcy h1 1006 6 0 0 3 a j = if a = 1006 ∧ j < 3 then h1 6 j else h1 a j := fun a j => by
    rw [zcy_app]
    by_cases w : a = 1006 ∧ j < 3
    · rw [if_pos (by omega), if_pos w, show 0 + (j - 0) = j by omega]
    · rw [if_neg (by omega), if_neg w]
  generalize zcy h1 1006 6 0 0 3 = g0 at z5 ⊢
  have Pd0 : cPb 1000 g0 := Pd1.fr (fun p hp => by rw [z5, if_neg (by
    have : ∀ p ∈ cPLb, p.1 ≠ 6 := by decide +kernel
    have := this p hp
    omega)])
  have F0 : ∀ a j, ¬ (1003 ≤ a ∧ a ≤ 1000 + 19) → g0 a j = h a j := fun a j w => by
    rw [z5, if_neg (by omega)]
    exact t3 a j (by omega) (by omega)
  have Ps0 : cPb 0 g0 := Ps.fr (fun p hp => F0 _ _ (by have := cPLb_b p hp; omega))
  have B0 : cBb 0 g0 := hb.fr (fun a j w1 w2 => F0 a j (by omega))
  obtain ⟨n, rfl⟩ : ∃ n', n = n' + 3 := ⟨n - 3, by omega⟩
  refine yR.e e_X9_copyFrom_i0_27 ?_
  refine yR.t (by decide) ?_
  refine yR.g (Pd0.p (a := 3) (j := 2) (v := 7) (by decide)) ?_
  refine yR.g (by decide) ?_
  refine yR.g (Pd0.p (a := 7) (j := 0) (v := 20) (by decide)) ?_
  refine yR.g (Ps0.p (a := 3) (j := 2) (v := 7) (by decide)) ?_
  refine yR.g (by decide) ?_
  refine yR.g (Ps0.p (a := 7) (j := 0) (v := 20) (by decide)) ?_
  refine yR.b (stepS (d := 1000) (s := 0) (i := 0) hds (by decide) Pd0 Ps0 B0) (fun _ g1 ⟨r1, F1, Pd1, Ps1, B1⟩ => ?_)
  refine yR.g (Pd1.p (a := 3) (j := 3) (v := 8) (by decide)) ?_
  refine yR.g (by decide) ?_
  refine yR.g (Pd1.p (a := 8) (j := 0) (v := 40) (by decide)) ?_
  refine yR.g (Ps1.p (a := 3) (j := 3) (v := 8) (by decide)) ?_
  refine yR.g (by decide) ?_
  refine yR.g (Ps1.p (a := 8) (j := 0) (v := 40) (by decide)) ?_
  refine yR.b (stepD (d := 1000) (s := 0) (i := 0) hds (by decide) Pd1 Ps1 B1) (fun _ g2 ⟨r2, F2, Pd2, Ps2, B2⟩ => ?_)
  refine yR.g (Pd2.p (a := 3) (j := 4) (v := 9) (by decide)) ?_
  refine yR.g (by decide) ?_
  refine yR.g (Pd2.p (a := 9) (j := 0) (v := 60) (by decide)) ?_
  refine yR.g (Ps2.p (a := 3) (j := 4) (v := 9) (by decide)) ?_
  refine yR.g (by decide) ?_
  refine yR.g (Ps2.p (a := 9) (j := 0) (v := 60) (by decide)) ?_
  refine yR.b (stepQ (d := 1000) (s := 0) (i := 0) hds (by decide) Pd2 Ps2 B2) (fun _ g3 ⟨r3, F3, Pd3, Ps3, B3⟩ => ?_)
  refine yR.g (by decide) ?_
  refine yR.e e_X9_copyFrom_i0_27 ?_
  refine yR.t (by decide) ?_
  refine yR.g (Pd3.p (a := 3) (j := 2) (v := 7) (by decide)) ?_
  refine yR.g (by decide) ?_
  refine yR.g (Pd3.p (a := 7) (j := 1) (v := 30) (by decide)) ?_
  refine yR.g (Ps3.p (a := 3) (j := 2) (v := 7) (by decide)) ?_
  refine yR.g (by decide) ?_
  refine yR.g (Ps3.p (a := 7) (j := 1) (v := 30) (by decide)) ?_
  refine yR.b (stepS (d := 1000) (s := 0) (i := 1) hds (by decide) Pd3 Ps3 B3) (fun _ g4 ⟨r4, F4, Pd4, Ps4, B4⟩ => ?_)
  refine yR.g (Pd4.p (a := 3) (j := 3) (v := 8) (by decide)) ?_
  refine yR.g (by decide) ?_
  refine yR.g (Pd4.p (a := 8) (j := 1) (v := 50) (by decide)) ?_
  refine yR.g (Ps4.p (a := 3) (j := 3) (v := 8) (by decide)) ?_
  refine yR.g (by decide) ?_
  refine yR.g (Ps4.p (a := 8) (j := 1) (v := 50) (by decide)) ?_
  refine yR.b (stepD (d := 1000) (s := 0) (i := 1) hds (by decide) Pd4 Ps4 B4) (fun _ g5 ⟨r5, F5, Pd5, Ps5, B5⟩ => ?_)
  refine yR.g (Pd5.p (a := 3) (j := 4) (v := 9) (by decide)) ?_
  refine yR.g (by decide) ?_
  refine yR.g (Pd5.p (a := 9) (j := 1) (v := 70) (by decide)) ?_
  refine yR.g (Ps5.p (a := 3) (j := 4) (v := 9) (by decide)) ?_
  refine yR.g (by decide) ?_
  refine yR.g (Ps5.p (a := 9) (j := 1) (v := 70) (by decide)) ?_
  refine yR.b (stepQ (d := 1000) (s := 0) (i := 1) hds (by decide) Pd5 Ps5 B5) (fun _ g6 ⟨r6, F6, Pd6, Ps6, B6⟩ => ?_)
  refine yR.g (by decide) ?_
  refine yR.e e_X9_copyFrom_i0_27 ?_
  refine yR.f (by decide) ?_
  refine yR.s ?_
  have G : ∀ a j, ¬ (1000 + 20 ≤ a ∧ a ≤ 1000 + 79) → g6 a j = g0 a j := fun a j w => by
    rw [F6 a j (by omega), F5 a j (by omega), F4 a j (by omega), F3 a j (by omega), F2 a j (by omega), F1 a j (by omega)]
  have U : ∀ a j, ¬ (a = 1003) → zup (zup g6 1003 5 (g6 3 5)) 1003 6 (g6 3 6) a j = g6 a j := fun a j w => by rw [zup_ne (by omega), zup_ne (by omega)]
  have src : ∀ a j, 3 ≤ a → a ≤ 0 + 79 → g6 a j = h a j := fun a j w1 w2 => (G a j (by omega)).trans (F0 a j (by omega))
  refine ⟨by rw [U _ _ (by omega), G _ _ (by omega), z5, if_neg (by omega)]; exact t1, fun i hi => by rw [U _ _ (by omega), G _ _ (by omega), z5, if_neg (by omega)]; exact t2 i hi, fun j hj => by rw [U _ _ (by omega), G _ _ (by omega), z5, if_pos (by omega)]; exact Fs1 _ _ (by decide) (by decide), fun i hi t ht => ?_, fun i hi t ht => ?_, fun i hi t ht => ?_, ?_, ?_, ?_, fun a j w => ?_⟩
  · rcases (show i = 0 ∨ i = 1 by omega) with rfl | rfl
    · exact cS.at (b := 1000 + 20 + 10 * 0) (fun a j w1 w2 => by rw [U a j (by omega), F6 a j (by omega), F5 a j (by omega), F4 a j (by omega), F3 a j (by omega), F2 a j (by omega)]) (r1 t (cS.at (fun a j w1 w2 => by rw [F0 a j (by omega)]) ht))
    · exact cS.at (b := 1000 + 20 + 10 * 1) (fun a j w1 w2 => by rw [U a j (by omega), F6 a j (by omega), F5 a j (by omega)]) (r4 t (cS.at (fun a j w1 w2 => by rw [F3 a j (by omega), F2 a j (by omega), F1 a j (by omega), F0 a j (by omega)]) ht))
  · rcases (show i = 0 ∨ i = 1 by omega) with rfl | rfl
    · exact cD.at (b := 1000 + 40 + 10 * 0) (fun a j w1 w2 => by rw [U a j (by omega), F6 a j (by omega), F5 a j (by omega), F4 a j (by omega), F3 a j (by omega)]) (r2 t (cD.at (fun a j w1 w2 => by rw [F1 a j (by omega), F0 a j (by omega)]) ht))
    · exact cD.at (b := 1000 + 40 + 10 * 1) (fun a j w1 w2 => by rw [U a j (by omega), F6 a j (by omega)]) (r5 t (cD.at (fun a j w1 w2 => by rw [F4 a j (by omega), F3 a j (by omega), F2 a j (by omega), F1 a j (by omega), F0 a j (by omega)]) ht))
  · rcases (show i = 0 ∨ i = 1 by omega) with rfl | rfl
    · exact cQ.at (b := 1000 + 60 + 10 * 0) (fun a j w1 w2 => by rw [U a j (by omega), F6 a j (by omega), F5 a j (by omega), F4 a j (by omega)]) (r3 t (cQ.at (fun a j w1 w2 => by rw [F2 a j (by omega), F1 a j (by omega), F0 a j (by omega)]) ht))
    · exact cQ.at (b := 1000 + 60 + 10 * 1) (fun a j w1 w2 => by rw [U a j (by omega)]) (r6 t (cQ.at (fun a j w1 w2 => by rw [F5 a j (by omega), F4 a j (by omega), F3 a j (by omega), F2 a j (by omega), F1 a j (by omega), F0 a j (by omega)]) ht))
  · rw [zup_ne (by omega), zup_at]
    exact src _ _ (by decide) (by decide)
  · rw [zup_at]
    exact src _ _ (by decide) (by decide)
  · refine Pd6.fr (fun p hp => ?_)
    have : ∀ p ∈ cPLb, ¬ (p.1 = 3 ∧ (p.2.1 = 5 ∨ p.2.1 = 6)) := by decide +kernel
    have := this p hp
    rw [zup_ne (by omega), zup_ne (by omega)]
  · rw [U a j (by omega), G a j (by omega)]
    exact F0 a j (by omega)
theorem tap_a0 {n : Nat} {h : yH} (Pd : cPb 0 h) (Ps : cPb 1000 h) (hb : 0 ≤ h 1004 1 ∧ h 1004 1 ≤ 600) : yR (f_X8_copyFrom_a0 n [4, 1004] h) (fun _ h1 => h1 4 1 = h 1004 1 ∧ (∀ i : Nat, (i : Int) < h 1004 1 → h1 5 i = h 1005 i) ∧ ∀ a j, ¬ a = 5 → ¬ (a = 4 ∧ j = 1) → h1 a j = h a j) := by
  refine yR.e e_X8_copyFrom_a0 ?_
  refine yR.g (Ps.p (a := 4) (j := 0) (v := 5) (by decide)) ?_
  refine yR.g (Pd.p (a := 4) (j := 0) (v := 5) (by decide)) ?_
  refine yR.g (by omega) ?_
  refine yR.h ?_
  have e1 : zcy h 5 1005 0 0 (h 1004 1).toNat 1004 1 = h 1004 1 := by rw [zcy_app, if_neg (by omega)]
  refine yR.g (by rw [e1]; exact hb) ?_
  refine yR.s ⟨by rw [zup_at, e1], fun i hi => by rw [zup_ne (by omega), zcy_app, if_pos (by omega), show 0 + (i - 0) = i by omega], fun a j w1 w2 => by rw [zup_ne w2, zcy_app, if_neg (by omega)]⟩
set_option maxRecDepth 10000 in
theorem tcp_a0 {n : Nat} {h : yH} (hn : 3 ≤ n) (Pd : cPb 0 h) (Ps : cPb 1000 h) (hb : cBb 1000 h) : yR (f_X9_copyFrom_a0 n [3, 1003] h) (fun _ h2 => tcR 0 1000 h h2) := by
  have hds : 0 + 100 ≤ 1000 ∨ 1000 + 100 ≤ 0 := by decide
  refine yR.e e_X9_copyFrom_a0 ?_
  refine yR.g (Pd.p (a := 3) (j := 0) (v := 4) (by decide)) ?_
  refine yR.g (Ps.p (a := 3) (j := 0) (v := 4) (by decide)) ?_
  refine yR.b (tap_a0 (n := n) Pd Ps hb.1) (fun _ h1 ⟨t1, t2, t3⟩ => ?_)
  have Pd1 : cPb 0 h1 := Pd.fr (fun p hp => t3 _ _ (by
    have : ∀ p ∈ cPLb, p.1 ≠ 5 := by decide +kernel
    have := this p hp
    omega) (by
    have : ∀ p ∈ cPLb, ¬ (p.1 = 4 ∧ p.2.1 = 1) := by decide +kernel
    have := this p hp
    omega))
  have Fs1 : ∀ a j, 1003 ≤ a → a ≤ 1000 + 79 → h1 a j = h a j := fun a j w1 w2 => t3 a j (by omega) (by omega)
  have Ps1 : cPb 1000 h1 := Ps.fr (fun p hp => Fs1 _ _ (by have := cPLb_b p hp; omega) (by have := cPLb_b p hp; omega))
  refine yR.g (Ps1.p (a := 3) (j := 1) (v := 6) (by decide)) ?_
  refine yR.g (Pd1.p (a := 3) (j := 1) (v := 6) (by decide)) ?_
  refine yR.h ?_
  have z5 : ∀ a j, zcy h1 6 1006 0 0 3 a j = if a = 6 ∧ j < 3 then h1 1006 j else h1 a j := fun a j => by
    rw [zcy_app]
    by_cases w : a = 6 ∧ j < 3
    · rw [if_pos (by omega), if_pos w, show 0 + (j - 0) = j by omega]
    · rw [if_neg (by omega), if_neg w]
  generalize zcy h1 6 1006 0 0 3 = g0 at z5 ⊢
  have Pd0 : cPb 0 g0 := Pd1.fr (fun p hp => by rw [z5, if_neg (by
    have : ∀ p ∈ cPLb, p.1 ≠ 6 := by decide +kernel
    have := this p hp
    omega)])
  have F0 : ∀ a j, ¬ (3 ≤ a ∧ a ≤ 0 + 19) → g0 a j = h a j := fun a j w => by
    rw [z5, if_neg (by omega)]
    exact t3 a j (by omega) (by omega)
  have Ps0 : cPb 1000 g0 := Ps.fr (fun p hp => F0 _ _ (by have := cPLb_b p hp; omega))
  have B0 : cBb 1000 g0 := hb.fr (fun a j w1 w2 => F0 a j (by omega))
  obtain ⟨n, rfl⟩ : ∃ n', n = n' + 3 := ⟨n - 3, by omega⟩
  refine yR.e e_X9_copyFrom_a0_27 ?_
  refine yR.t (by decide) ?_
  refine yR.g (Pd0.p (a := 3) (j := 2) (v := 7) (by decide)) ?_
  refine yR.g (by decide) ?_
  refine yR.g (Pd0.p (a := 7) (j := 0) (v := 20) (by decide)) ?_
  refine yR.g (Ps0.p (a := 3) (j := 2) (v := 7) (by decide)) ?_
  refine yR.g (by decide) ?_
  refine yR.g (Ps0.p (a := 7) (j := 0) (v := 20) (by decide)) ?_
  refine yR.b (stepS (d := 0) (s := 1000) (i := 0) hds (by decide) Pd0 Ps0 B0) (fun _ g1 ⟨r1, F1, Pd1, Ps1, B1⟩ => ?_)
  refine yR.g (Pd1.p (a := 3) (j := 3) (v := 8) (by decide)) ?_
  refine yR.g (by decide) ?_
  refine yR.g (Pd1.p (a := 8) (j := 0) (v := 40) (by decide)) ?_
  refine yR.g (Ps1.p (a := 3) (j := 3) (v := 8) (by decide)) ?_
  refine yR.g (by decide) ?_
  refine yR.g (Ps1.p (a := 8) (j := 0) (v := 40) (by decide)) ?_
  refine yR.b (stepD (d := 0) (s := 1000) (i := 0) hds (by decide) Pd1 Ps1 B1) (fun _ g2 ⟨r2, F2, Pd2, Ps2, B2⟩ => ?_)
  refine yR.g (Pd2.p (a := 3) (j := 4) (v := 9) (by decide)) ?_
  refine yR.g (by decide) ?_
  refine yR.g (Pd2.p (a := 9) (j := 0) (v := 60) (by decide)) ?_
  refine yR.g (Ps2.p (a := 3) (j := 4) (v := 9) (by decide)) ?_
  refine yR.g (by decide) ?_
  refine yR.g (Ps2.p (a := 9) (j := 0) (v := 60) (by decide)) ?_
  refine yR.b (stepQ (d := 0) (s := 1000) (i := 0) hds (by decide) Pd2 Ps2 B2) (fun _ g3 ⟨r3, F3, Pd3, Ps3, B3⟩ => ?_)
  refine yR.g (by decide) ?_
  refine yR.e e_X9_copyFrom_a0_27 ?_
  refine yR.t (by decide) ?_
  refine yR.g (Pd3.p (a := 3) (j := 2) (v := 7) (by decide)) ?_
  refine yR.g (by decide) ?_
  refine yR.g (Pd3.p (a := 7) (j := 1) (v := 30) (by decide)) ?_
  refine yR.g (Ps3.p (a := 3) (j := 2) (v := 7) (by decide)) ?_
  refine yR.g (by decide) ?_
  refine yR.g (Ps3.p (a := 7) (j := 1) (v := 30) (by decide)) ?_
  refine yR.b (stepS (d := 0) (s := 1000) (i := 1) hds (by decide) Pd3 Ps3 B3) (fun _ g4 ⟨r4, F4, Pd4, Ps4, B4⟩ => ?_)
  refine yR.g (Pd4.p (a := 3) (j := 3) (v := 8) (by decide)) ?_
  refine yR.g (by decide) ?_
  refine yR.g (Pd4.p (a := 8) (j := 1) (v := 50) (by decide)) ?_
  refine yR.g (Ps4.p (a := 3) (j := 3) (v := 8) (by decide)) ?_
  refine yR.g (by decide) ?_
  refine yR.g (Ps4.p (a := 8) (j := 1) (v := 50) (by decide)) ?_
  refine yR.b (stepD (d := 0) (s := 1000) (i := 1) hds (by decide) Pd4 Ps4 B4) (fun _ g5 ⟨r5, F5, Pd5, Ps5, B5⟩ => ?_)
  refine yR.g (Pd5.p (a := 3) (j := 4) (v := 9) (by decide)) ?_
  refine yR.g (by decide) ?_
  refine yR.g (Pd5.p (a := 9) (j := 1) (v := 70) (by decide)) ?_
  refine yR.g (Ps5.p (a := 3) (j := 4) (v := 9) (by decide)) ?_
  refine yR.g (by decide) ?_
  refine yR.g (Ps5.p (a := 9) (j := 1) (v := 70) (by decide)) ?_
  refine yR.b (stepQ (d := 0) (s := 1000) (i := 1) hds (by decide) Pd5 Ps5 B5) (fun _ g6 ⟨r6, F6, Pd6, Ps6, B6⟩ => ?_)
  refine yR.g (by decide) ?_
  refine yR.e e_X9_copyFrom_a0_27 ?_
  refine yR.f (by decide) ?_
  refine yR.s ?_
  have G : ∀ a j, ¬ (0 + 20 ≤ a ∧ a ≤ 0 + 79) → g6 a j = g0 a j := fun a j w => by
    rw [F6 a j (by omega), F5 a j (by omega), F4 a j (by omega), F3 a j (by omega), F2 a j (by omega), F1 a j (by omega)]
  have U : ∀ a j, ¬ (a = 3) → zup (zup g6 3 5 (g6 1003 5)) 3 6 (g6 1003 6) a j = g6 a j := fun a j w => by rw [zup_ne (by omega), zup_ne (by omega)]
  have src : ∀ a j, 1003 ≤ a → a ≤ 1000 + 79 → g6 a j = h a j := fun a j w1 w2 => (G a j (by omega)).trans (F0 a j (by omega))
  refine ⟨by rw [U _ _ (by omega), G _ _ (by omega), z5, if_neg (by omega)]; exact t1, fun i hi => by rw [U _ _ (by omega), G _ _ (by omega), z5, if_neg (by omega)]; exact t2 i hi, fun j hj => by rw [U _ _ (by omega), G _ _ (by omega), z5, if_pos (by omega)]; exact Fs1 _ _ (by decide) (by decide), fun i hi t ht => ?_, fun i hi t ht => ?_, fun i hi t ht => ?_, ?_, ?_, ?_, fun a j w => ?_⟩
  · rcases (show i = 0 ∨ i = 1 by omega) with rfl | rfl
    · exact cS.at (b := 0 + 20 + 10 * 0) (fun a j w1 w2 => by rw [U a j (by omega), F6 a j (by omega), F5 a j (by omega), F4 a j (by omega), F3 a j (by omega), F2 a j (by omega)]) (r1 t (cS.at (fun a j w1 w2 => by rw [F0 a j (by omega)]) ht))
    · exact cS.at (b := 0 + 20 + 10 * 1) (fun a j w1 w2 => by rw [U a j (by omega), F6 a j (by omega), F5 a j (by omega)]) (r4 t (cS.at (fun a j w1 w2 => by rw [F3 a j (by omega), F2 a j (by omega), F1 a j (by omega), F0 a j (by omega)]) ht))
  · rcases (show i = 0 ∨ i = 1 by omega) with rfl | rfl
    · exact cD.at (b := 0 + 40 + 10 * 0) (fun a j w1 w2 => by rw [U a j (by omega), F6 a j (by omega), F5 a j (by omega), F4 a j (by omega), F3 a j (by omega)]) (r2 t (cD.at (fun a j w1 w2 => by rw [F1 a j (by omega), F0 a j (by omega)]) ht))
    · exact cD.at (b := 0 + 40 + 10 * 1) (fun a j w1 w2 => by rw [U a j (by omega), F6 a j (by omega)]) (r5 t (cD.at (fun a j w1 w2 => by rw [F4 a j (by omega), F3 a j (by omega), F2 a j (by omega), F1 a j (by omega), F0 a j (by omega)]) ht))
  · rcases (show i = 0 ∨ i = 1 by omega) with rfl | rfl
    · exact cQ.at (b := 0 + 60 + 10 * 0) (fun a j w1 w2 => by rw [U a j (by omega), F6 a j (by omega), F5 a j (by omega), F4 a j (by omega)]) (r3 t (cQ.at (fun a j w1 w2 => by rw [F2 a j (by omega), F1 a j (by omega), F0 a j (by omega)]) ht))
    · exact cQ.at (b := 0 + 60 + 10 * 1) (fun a j w1 w2 => by rw [U a j (by omega)]) (r6 t (cQ.at (fun a j w1 w2 => by rw [F5 a j (by omega), F4 a j (by omega), F3 a j (by omega), F2 a j (by omega), F1 a j (by omega), F0 a j (by omega)]) ht))
  · rw [zup_ne (by omega), zup_at]
    exact src _ _ (by decide) (by decide)
  · rw [zup_at]
    exact src _ _ (by decide) (by decide)
  · refine Pd6.fr (fun p hp => ?_)
    have : ∀ p ∈ cPLb, ¬ (p.1 = 3 ∧ (p.2.1 = 5 ∨ p.2.1 = 6)) := by decide +kernel
    have := this p hp
    rw [zup_ne (by omega), zup_ne (by omega)]
  · rw [U a j (by omega), G a j (by omega)]
    exact F0 a j (by omega)
theorem tap_i1 {n : Nat} {h : yH} (Pd : cPb 2000 h) (Ps : cPb 0 h) (hb : 0 ≤ h 4 1 ∧ h 4 1 ≤ 600) : yR (f_X8_copyFrom_i1 n [2004, 4] h) (fun _ h1 => h1 2004 1 = h 4 1 ∧ (∀ i : Nat, (i : Int) < h 4 1 → h1 2005 i = h 5 i) ∧ ∀ a j, ¬ a = 2005 → ¬ (a = 2004 ∧ j = 1) → h1 a j = h a j) := by
  refine yR.e e_X8_copyFrom_i1 ?_
  refine yR.g (Ps.p (a := 4) (j := 0) (v := 5) (by decide)) ?_
  refine yR.g (Pd.p (a := 4) (j := 0) (v := 5) (by decide)) ?_
  refine yR.g (by omega) ?_
  refine yR.h ?_
  have e1 : zcy h 2005 5 0 0 (h 4 1).toNat 4 1 = h 4 1 := by rw [zcy_app, if_neg (by omega)]
  refine yR.g (by rw [e1]; exact hb) ?_
  refine yR.s ⟨by rw [zup_at, e1], fun i hi => by rw [zup_ne (by omega), zcy_app, if_pos (by omega), show 0 + (i - 0) = i by omega], fun a j w1 w2 => by rw [zup_ne w2, zcy_app, if_neg (by omega)]⟩
set_option maxRecDepth 10000 in
theorem tcp_i1 {n : Nat} {h : yH} (hn : 3 ≤ n) (Pd : cPb 2000 h) (Ps : cPb 0 h) (hb : cBb 0 h) : yR (f_X9_copyFrom_i1 n [2003, 3] h) (fun _ h2 => tcR 2000 0 h h2) := by
  have hds : 2000 + 100 ≤ 0 ∨ 0 + 100 ≤ 2000 := by decide
  refine yR.e e_X9_copyFrom_i1 ?_
  refine yR.g (Pd.p (a := 3) (j := 0) (v := 4) (by decide)) ?_
  refine yR.g (Ps.p (a := 3) (j := 0) (v := 4) (by decide)) ?_
  refine yR.b (tap_i1 (n := n) Pd Ps hb.1) (fun _ h1 ⟨t1, t2, t3⟩ => ?_)
  have Pd1 : cPb 2000 h1 := Pd.fr (fun p hp => t3 _ _ (by
    have : ∀ p ∈ cPLb, p.1 ≠ 5 := by decide +kernel
    have := this p hp
    omega) (by
    have : ∀ p ∈ cPLb, ¬ (p.1 = 4 ∧ p.2.1 = 1) := by decide +kernel
    have := this p hp
    omega))
  have Fs1 : ∀ a j, 3 ≤ a → a ≤ 0 + 79 → h1 a j = h a j := fun a j w1 w2 => t3 a j (by omega) (by omega)
  have Ps1 : cPb 0 h1 := Ps.fr (fun p hp => Fs1 _ _ (by have := cPLb_b p hp; omega) (by have := cPLb_b p hp; omega))
  refine yR.g (Ps1.p (a := 3) (j := 1) (v := 6) (by decide)) ?_
  refine yR.g (Pd1.p (a := 3) (j := 1) (v := 6) (by decide)) ?_
  refine yR.h ?_
  have z5 : ∀ a j, zcy h1 2006 6 0 0 3 a j = if a = 2006 ∧ j < 3 then h1 6 j else h1 a j := fun a j => by
    rw [zcy_app]
    by_cases w : a = 2006 ∧ j < 3
    · rw [if_pos (by omega), if_pos w, show 0 + (j - 0) = j by omega]
    · rw [if_neg (by omega), if_neg w]
  generalize zcy h1 2006 6 0 0 3 = g0 at z5 ⊢
  have Pd0 : cPb 2000 g0 := Pd1.fr (fun p hp => by rw [z5, if_neg (by
    have : ∀ p ∈ cPLb, p.1 ≠ 6 := by decide +kernel
    have := this p hp
    omega)])
  have F0 : ∀ a j, ¬ (2003 ≤ a ∧ a ≤ 2000 + 19) → g0 a j = h a j := fun a j w => by
    rw [z5, if_neg (by omega)]
    exact t3 a j (by omega) (by omega)
  have Ps0 : cPb 0 g0 := Ps.fr (fun p hp => F0 _ _ (by have := cPLb_b p hp; omega))
  have B0 : cBb 0 g0 := hb.fr (fun a j w1 w2 => F0 a j (by omega))
  obtain ⟨n, rfl⟩ : ∃ n', n = n' + 3 := ⟨n - 3, by omega⟩
  refine yR.e e_X9_copyFrom_i1_27 ?_
  refine yR.t (by decide) ?_
  refine yR.g (Pd0.p (a := 3) (j := 2) (v := 7) (by decide)) ?_
  refine yR.g (by decide) ?_
  refine yR.g (Pd0.p (a := 7) (j := 0) (v := 20) (by decide)) ?_
  refine yR.g (Ps0.p (a := 3) (j := 2) (v := 7) (by decide)) ?_
  refine yR.g (by decide) ?_
  refine yR.g (Ps0.p (a := 7) (j := 0) (v := 20) (by decide)) ?_
  refine yR.b (stepS (d := 2000) (s := 0) (i := 0) hds (by decide) Pd0 Ps0 B0) (fun _ g1 ⟨r1, F1, Pd1, Ps1, B1⟩ => ?_)
  refine yR.g (Pd1.p (a := 3) (j := 3) (v := 8) (by decide)) ?_
  refine yR.g (by decide) ?_
  refine yR.g (Pd1.p (a := 8) (j := 0) (v := 40) (by decide)) ?_
  refine yR.g (Ps1.p (a := 3) (j := 3) (v := 8) (by decide)) ?_
  refine yR.g (by decide) ?_
  refine yR.g (Ps1.p (a := 8) (j := 0) (v := 40) (by decide)) ?_
  refine yR.b (stepD (d := 2000) (s := 0) (i := 0) hds (by decide) Pd1 Ps1 B1) (fun _ g2 ⟨r2, F2, Pd2, Ps2, B2⟩ => ?_)
  refine yR.g (Pd2.p (a := 3) (j := 4) (v := 9) (by decide)) ?_
  refine yR.g (by decide) ?_
  refine yR.g (Pd2.p (a := 9) (j := 0) (v := 60) (by decide)) ?_
  refine yR.g (Ps2.p (a := 3) (j := 4) (v := 9) (by decide)) ?_
  refine yR.g (by decide) ?_
  refine yR.g (Ps2.p (a := 9) (j := 0) (v := 60) (by decide)) ?_
  refine yR.b (stepQ (d := 2000) (s := 0) (i := 0) hds (by decide) Pd2 Ps2 B2) (fun _ g3 ⟨r3, F3, Pd3, Ps3, B3⟩ => ?_)
  refine yR.g (by decide) ?_
  refine yR.e e_X9_copyFrom_i1_27 ?_
  refine yR.t (by decide) ?_
  refine yR.g (Pd3.p (a := 3) (j := 2) (v := 7) (by decide)) ?_
  refine yR.g (by decide) ?_
  refine yR.g (Pd3.p (a := 7) (j := 1) (v := 30) (by decide)) ?_
  refine yR.g (Ps3.p (a := 3) (j := 2) (v := 7) (by decide)) ?_
  refine yR.g (by decide) ?_
  refine yR.g (Ps3.p (a := 7) (j := 1) (v := 30) (by decide)) ?_
  refine yR.b (stepS (d := 2000) (s := 0) (i := 1) hds (by decide) Pd3 Ps3 B3) (fun _ g4 ⟨r4, F4, Pd4, Ps4, B4⟩ => ?_)
  refine yR.g (Pd4.p (a := 3) (j := 3) (v := 8) (by decide)) ?_
  refine yR.g (by decide) ?_
  refine yR.g (Pd4.p (a := 8) (j := 1) (v := 50) (by decide)) ?_
  refine yR.g (Ps4.p (a := 3) (j := 3) (v := 8) (by decide)) ?_
  refine yR.g (by decide) ?_
  refine yR.g (Ps4.p (a := 8) (j := 1) (v := 50) (by decide)) ?_
  refine yR.b (stepD (d := 2000) (s := 0) (i := 1) hds (by decide) Pd4 Ps4 B4) (fun _ g5 ⟨r5, F5, Pd5, Ps5, B5⟩ => ?_)
  refine yR.g (Pd5.p (a := 3) (j := 4) (v := 9) (by decide)) ?_
  refine yR.g (by decide) ?_
  refine yR.g (Pd5.p (a := 9) (j := 1) (v := 70) (by decide)) ?_
  refine yR.g (Ps5.p (a := 3) (j := 4) (v := 9) (by decide)) ?_
  refine yR.g (by decide) ?_
  refine yR.g (Ps5.p (a := 9) (j := 1) (v := 70) (by decide)) ?_
  refine yR.b (stepQ (d := 2000) (s := 0) (i := 1) hds (by decide) Pd5 Ps5 B5) (fun _ g6 ⟨r6, F6, Pd6, Ps6, B6⟩ => ?_)
  refine yR.g (by decide) ?_
  refine yR.e e_X9_copyFrom_i1_27 ?_
  refine yR.f (by decide) ?_
  refine yR.s ?_
  have G : ∀ a j, ¬ (2000 + 20 ≤ a ∧ a ≤ 2000 + 79) → g6 a j = g0 a j := fun a j w => by
    rw [F6 a j (by omega), F5 a j (by omega), F4 a j (by omega), F3 a j (by omega), F2 a j (by omega), F1 a j (by omega)]
  have U : ∀ a j, ¬ (a = 2003) → zup (zup g6 2003 5 (g6 3 5)) 2003 6 (g6 3 6) a j = g6 a j := fun a j w => by rw [zup_ne (by omega), zup_ne (by omega)]
  have src : ∀ a j, 3 ≤ a → a ≤ 0 + 79 → g6 a j = h a j := fun a j w1 w2 => (G a j (by omega)).trans (F0 a j (by omega))
  refine ⟨by rw [U _ _ (by omega), G _ _ (by omega), z5, if_neg (by omega)]; exact t1, fun i hi => by rw [U _ _ (by omega), G _ _ (by omega), z5, if_neg (by omega)]; exact t2 i hi, fun j hj => by rw [U _ _ (by omega), G _ _ (by omega), z5, if_pos (by omega)]; exact Fs1 _ _ (by decide) (by decide), fun i hi t ht => ?_, fun i hi t ht => ?_, fun i hi t ht => ?_, ?_, ?_, ?_, fun a j w => ?_⟩
  · rcases (show i = 0 ∨ i = 1 by omega) with rfl | rfl
    · exact cS.at (b := 2000 + 20 + 10 * 0) (fun a j w1 w2 => by rw [U a j (by omega), F6 a j (by omega), F5 a j (by omega), F4 a j (by omega), F3 a j (by omega), F2 a j (by omega)]) (r1 t (cS.at (fun a j w1 w2 => by rw [F0 a j (by omega)]) ht))
    · exact cS.at (b := 2000 + 20 + 10 * 1) (fun a j w1 w2 => by rw [U a j (by omega), F6 a j (by omega), F5 a j (by omega)]) (r4 t (cS.at (fun a j w1 w2 => by rw [F3 a j (by omega), F2 a j (by omega), F1 a j (by omega), F0 a j (by omega)]) ht))
  · rcases (show i = 0 ∨ i = 1 by omega) with rfl | rfl
    · exact cD.at (b := 2000 + 40 + 10 * 0) (fun a j w1 w2 => by rw [U a j (by omega), F6 a j (by omega), F5 a j (by omega), F4 a j (by omega), F3 a j (by omega)]) (r2 t (cD.at (fun a j w1 w2 => by rw [F1 a j (by omega), F0 a j (by omega)]) ht))
    · exact cD.at (b := 2000 + 40 + 10 * 1) (fun a j w1 w2 => by rw [U a j (by omega), F6 a j (by omega)]) (r5 t (cD.at (fun a j w1 w2 => by rw [F4 a j (by omega), F3 a j (by omega), F2 a j (by omega), F1 a j (by omega), F0 a j (by omega)]) ht))
  · rcases (show i = 0 ∨ i = 1 by omega) with rfl | rfl
    · exact cQ.at (b := 2000 + 60 + 10 * 0) (fun a j w1 w2 => by rw [U a j (by omega), F6 a j (by omega), F5 a j (by omega), F4 a j (by omega)]) (r3 t (cQ.at (fun a j w1 w2 => by rw [F2 a j (by omega), F1 a j (by omega), F0 a j (by omega)]) ht))
    · exact cQ.at (b := 2000 + 60 + 10 * 1) (fun a j w1 w2 => by rw [U a j (by omega)]) (r6 t (cQ.at (fun a j w1 w2 => by rw [F5 a j (by omega), F4 a j (by omega), F3 a j (by omega), F2 a j (by omega), F1 a j (by omega), F0 a j (by omega)]) ht))
  · rw [zup_ne (by omega), zup_at]
    exact src _ _ (by decide) (by decide)
  · rw [zup_at]
    exact src _ _ (by decide) (by decide)
  · refine Pd6.fr (fun p hp => ?_)
    have : ∀ p ∈ cPLb, ¬ (p.1 = 3 ∧ (p.2.1 = 5 ∨ p.2.1 = 6)) := by decide +kernel
    have := this p hp
    rw [zup_ne (by omega), zup_ne (by omega)]
  · rw [U a j (by omega), G a j (by omega)]
    exact F0 a j (by omega)
theorem tap_a1 {n : Nat} {h : yH} (Pd : cPb 0 h) (Ps : cPb 2000 h) (hb : 0 ≤ h 2004 1 ∧ h 2004 1 ≤ 600) : yR (f_X8_copyFrom_a1 n [4, 2004] h) (fun _ h1 => h1 4 1 = h 2004 1 ∧ (∀ i : Nat, (i : Int) < h 2004 1 → h1 5 i = h 2005 i) ∧ ∀ a j, ¬ a = 5 → ¬ (a = 4 ∧ j = 1) → h1 a j = h a j) := by
  refine yR.e e_X8_copyFrom_a1 ?_
  refine yR.g (Ps.p (a := 4) (j := 0) (v := 5) (by decide)) ?_
  refine yR.g (Pd.p (a := 4) (j := 0) (v := 5) (by decide)) ?_
  refine yR.g (by omega) ?_
  refine yR.h ?_
  have e1 : zcy h 5 2005 0 0 (h 2004 1).toNat 2004 1 = h 2004 1 := by rw [zcy_app, if_neg (by omega)]
  refine yR.g (by rw [e1]; exact hb) ?_
  refine yR.s ⟨by rw [zup_at, e1], fun i hi => by rw [zup_ne (by omega), zcy_app, if_pos (by omega), show 0 + (i - 0) = i by omega], fun a j w1 w2 => by rw [zup_ne w2, zcy_app, if_neg (by omega)]⟩
set_option maxRecDepth 10000 in
theorem tcp_a1 {n : Nat} {h : yH} (hn : 3 ≤ n) (Pd : cPb 0 h) (Ps : cPb 2000 h) (hb : cBb 2000 h) : yR (f_X9_copyFrom_a1 n [3, 2003] h) (fun _ h2 => tcR 0 2000 h h2) := by
  have hds : 0 + 100 ≤ 2000 ∨ 2000 + 100 ≤ 0 := by decide
  refine yR.e e_X9_copyFrom_a1 ?_
  refine yR.g (Pd.p (a := 3) (j := 0) (v := 4) (by decide)) ?_
  refine yR.g (Ps.p (a := 3) (j := 0) (v := 4) (by decide)) ?_
  refine yR.b (tap_a1 (n := n) Pd Ps hb.1) (fun _ h1 ⟨t1, t2, t3⟩ => ?_)
  have Pd1 : cPb 0 h1 := Pd.fr (fun p hp => t3 _ _ (by
    have : ∀ p ∈ cPLb, p.1 ≠ 5 := by decide +kernel
    have := this p hp
    omega) (by
    have : ∀ p ∈ cPLb, ¬ (p.1 = 4 ∧ p.2.1 = 1) := by decide +kernel
    have := this p hp
    omega))
  have Fs1 : ∀ a j, 2003 ≤ a → a ≤ 2000 + 79 → h1 a j = h a j := fun a j w1 w2 => t3 a j (by omega) (by omega)
  have Ps1 : cPb 2000 h1 := Ps.fr (fun p hp => Fs1 _ _ (by have := cPLb_b p hp; omega) (by have := cPLb_b p hp; omega))
  refine yR.g (Ps1.p (a := 3) (j := 1) (v := 6) (by decide)) ?_
  refine yR.g (Pd1.p (a := 3) (j := 1) (v := 6) (by decide)) ?_
  refine yR.h ?_
  have z5 : ∀ a j, zcy h1 6 2006 0 0 3 a j = if a = 6 ∧ j < 3 then h1 2006 j else h1 a j := fun a j => by
    rw [zcy_app]
    by_cases w : a = 6 ∧ j < 3
    · rw [if_pos (by omega), if_pos w, show 0 + (j - 0) = j by omega]
    · rw [if_neg (by omega), if_neg w]
  generalize zcy h1 6 2006 0 0 3 = g0 at z5 ⊢
  have Pd0 : cPb 0 g0 := Pd1.fr (fun p hp => by rw [z5, if_neg (by
    have : ∀ p ∈ cPLb, p.1 ≠ 6 := by decide +kernel
    have := this p hp
    omega)])
  have F0 : ∀ a j, ¬ (3 ≤ a ∧ a ≤ 0 + 19) → g0 a j = h a j := fun a j w => by
    rw [z5, if_neg (by omega)]
    exact t3 a j (by omega) (by omega)
  have Ps0 : cPb 2000 g0 := Ps.fr (fun p hp => F0 _ _ (by have := cPLb_b p hp; omega))
  have B0 : cBb 2000 g0 := hb.fr (fun a j w1 w2 => F0 a j (by omega))
  obtain ⟨n, rfl⟩ : ∃ n', n = n' + 3 := ⟨n - 3, by omega⟩
  refine yR.e e_X9_copyFrom_a1_27 ?_
  refine yR.t (by decide) ?_
  refine yR.g (Pd0.p (a := 3) (j := 2) (v := 7) (by decide)) ?_
  refine yR.g (by decide) ?_
  refine yR.g (Pd0.p (a := 7) (j := 0) (v := 20) (by decide)) ?_
  refine yR.g (Ps0.p (a := 3) (j := 2) (v := 7) (by decide)) ?_
  refine yR.g (by decide) ?_
  refine yR.g (Ps0.p (a := 7) (j := 0) (v := 20) (by decide)) ?_
  refine yR.b (stepS (d := 0) (s := 2000) (i := 0) hds (by decide) Pd0 Ps0 B0) (fun _ g1 ⟨r1, F1, Pd1, Ps1, B1⟩ => ?_)
  refine yR.g (Pd1.p (a := 3) (j := 3) (v := 8) (by decide)) ?_
  refine yR.g (by decide) ?_
  refine yR.g (Pd1.p (a := 8) (j := 0) (v := 40) (by decide)) ?_
  refine yR.g (Ps1.p (a := 3) (j := 3) (v := 8) (by decide)) ?_
  refine yR.g (by decide) ?_
  refine yR.g (Ps1.p (a := 8) (j := 0) (v := 40) (by decide)) ?_
  refine yR.b (stepD (d := 0) (s := 2000) (i := 0) hds (by decide) Pd1 Ps1 B1) (fun _ g2 ⟨r2, F2, Pd2, Ps2, B2⟩ => ?_)
  refine yR.g (Pd2.p (a := 3) (j := 4) (v := 9) (by decide)) ?_
  refine yR.g (by decide) ?_
  refine yR.g (Pd2.p (a := 9) (j := 0) (v := 60) (by decide)) ?_
  refine yR.g (Ps2.p (a := 3) (j := 4) (v := 9) (by decide)) ?_
  refine yR.g (by decide) ?_
  refine yR.g (Ps2.p (a := 9) (j := 0) (v := 60) (by decide)) ?_
  refine yR.b (stepQ (d := 0) (s := 2000) (i := 0) hds (by decide) Pd2 Ps2 B2) (fun _ g3 ⟨r3, F3, Pd3, Ps3, B3⟩ => ?_)
  refine yR.g (by decide) ?_
  refine yR.e e_X9_copyFrom_a1_27 ?_
  refine yR.t (by decide) ?_
  refine yR.g (Pd3.p (a := 3) (j := 2) (v := 7) (by decide)) ?_
  refine yR.g (by decide) ?_
  refine yR.g (Pd3.p (a := 7) (j := 1) (v := 30) (by decide)) ?_
  refine yR.g (Ps3.p (a := 3) (j := 2) (v := 7) (by decide)) ?_
  refine yR.g (by decide) ?_
  refine yR.g (Ps3.p (a := 7) (j := 1) (v := 30) (by decide)) ?_
  refine yR.b (stepS (d := 0) (s := 2000) (i := 1) hds (by decide) Pd3 Ps3 B3) (fun _ g4 ⟨r4, F4, Pd4, Ps4, B4⟩ => ?_)
  refine yR.g (Pd4.p (a := 3) (j := 3) (v := 8) (by decide)) ?_
  refine yR.g (by decide) ?_
  refine yR.g (Pd4.p (a := 8) (j := 1) (v := 50) (by decide)) ?_
  refine yR.g (Ps4.p (a := 3) (j := 3) (v := 8) (by decide)) ?_
  refine yR.g (by decide) ?_
  refine yR.g (Ps4.p (a := 8) (j := 1) (v := 50) (by decide)) ?_
  refine yR.b (stepD (d := 0) (s := 2000) (i := 1) hds (by decide) Pd4 Ps4 B4) (fun _ g5 ⟨r5, F5, Pd5, Ps5, B5⟩ => ?_)
  refine yR.g (Pd5.p (a := 3) (j := 4) (v := 9) (by decide)) ?_
  refine yR.g (by decide) ?_
  refine yR.g (Pd5.p (a := 9) (j := 1) (v := 70) (by decide)) ?_
  refine yR.g (Ps5.p (a := 3) (j := 4) (v := 9) (by decide)) ?_
  refine yR.g (by decide) ?_
  refine yR.g (Ps5.p (a := 9) (j := 1) (v := 70) (by decide)) ?_
  refine yR.b (stepQ (d := 0) (s := 2000) (i := 1) hds (by decide) Pd5 Ps5 B5) (fun _ g6 ⟨r6, F6, Pd6, Ps6, B6⟩ => ?_)
  refine yR.g (by decide) ?_
  refine yR.e e_X9_copyFrom_a1_27 ?_
  refine yR.f (by decide) ?_
  refine yR.s ?_
  have G : ∀ a j, ¬ (0 + 20 ≤ a ∧ a ≤ 0 + 79) → g6 a j = g0 a j := fun a j w => by
    rw [F6 a j (by omega), F5 a j (by omega), F4 a j (by omega), F3 a j (by omega), F2 a j (by omega), F1 a j (by omega)]
  have U : ∀ a j, ¬ (a = 3) → zup (zup g6 3 5 (g6 2003 5)) 3 6 (g6 2003 6) a j = g6 a j := fun a j w => by rw [zup_ne (by omega), zup_ne (by omega)]
  have src : ∀ a j, 2003 ≤ a → a ≤ 2000 + 79 → g6 a j = h a j := fun a j w1 w2 => (G a j (by omega)).trans (F0 a j (by omega))
  refine ⟨by rw [U _ _ (by omega), G _ _ (by omega), z5, if_neg (by omega)]; exact t1, fun i hi => by rw [U _ _ (by omega), G _ _ (by omega), z5, if_neg (by omega)]; exact t2 i hi, fun j hj => by rw [U _ _ (by omega), G _ _ (by omega), z5, if_pos (by omega)]; exact Fs1 _ _ (by decide) (by decide), fun i hi t ht => ?_, fun i hi t ht => ?_, fun i hi t ht => ?_, ?_, ?_, ?_, fun a j w => ?_⟩
  · rcases (show i = 0 ∨ i = 1 by omega) with rfl | rfl
    · exact cS.at (b := 0 + 20 + 10 * 0) (fun a j w1 w2 => by rw [U a j (by omega), F6 a j (by omega), F5 a j (by omega), F4 a j (by omega), F3 a j (by omega), F2 a j (by omega)]) (r1 t (cS.at (fun a j w1 w2 => by rw [F0 a j (by omega)]) ht))
    · exact cS.at (b := 0 + 20 + 10 * 1) (fun a j w1 w2 => by rw [U a j (by omega), F6 a j (by omega), F5 a j (by omega)]) (r4 t (cS.at (fun a j w1 w2 => by rw [F3 a j (by omega), F2 a j (by omega), F1 a j (by omega), F0 a j (by omega)]) ht))
  · rcases (show i = 0 ∨ i = 1 by omega) with rfl | rfl
    · exact cD.at (b := 0 + 40 + 10 * 0) (fun a j w1 w2 => by rw [U a j (by omega), F6 a j (by omega), F5 a j (by omega), F4 a j (by omega), F3 a j (by omega)]) (r2 t (cD.at (fun a j w1 w2 => by rw [F1 a j (by omega), F0 a j (by omega)]) ht))
    · exact cD.at (b := 0 + 40 + 10 * 1) (fun a j w1 w2 => by rw [U a j (by omega), F6 a j (by omega)]) (r5 t (cD.at (fun a j w1 w2 => by rw [F4 a j (by omega), F3 a j (by omega), F2 a j (by omega), F1 a j (by omega), F0 a j (by omega)]) ht))
  · rcases (show i = 0 ∨ i = 1 by omega) with rfl | rfl
    · exact cQ.at (b := 0 + 60 + 10 * 0) (fun a j w1 w2 => by rw [U a j (by omega), F6 a j (by omega), F5 a j (by omega), F4 a j (by omega)]) (r3 t (cQ.at (fun a j w1 w2 => by rw [F2 a j (by omega), F1 a j (by omega), F0 a j (by omega)]) ht))
    · exact cQ.at (b := 0 + 60 + 10 * 1) (fun a j w1 w2 => by rw [U a j (by omega)]) (r6 t (cQ.at (fun a j w1 w2 => by rw [F5 a j (by omega), F4 a j (by omega), F3 a j (by omega), F2 a j (by omega), F1 a j (by omega), F0 a j (by omega)]) ht))
  · rw [zup_ne (by omega), zup_at]
    exact src _ _ (by decide) (by decide)
  · rw [zup_at]
    exact src _ _ (by decide) (by decide)
  · refine Pd6.fr (fun p hp => ?_)
    have : ∀ p ∈ cPLb, ¬ (p.1 = 3 ∧ (p.2.1 = 5 ∨ p.2.1 = 6)) := by decide +kernel
    have := this p hp
    rw [zup_ne (by omega), zup_ne (by omega)]
  · rw [U a j (by omega), G a j (by omega)]
    exact F0 a j (by omega)
theorem tap_i2 {n : Nat} {h : yH} (Pd : cPb 3000 h) (Ps : cPb 0 h) (hb : 0 ≤ h 4 1 ∧ h 4 1 ≤ 600) : yR (f_X8_copyFrom_i2 n [3004, 4] h) (fun _ h1 => h1 3004 1 = h 4 1 ∧ (∀ i : Nat, (i : Int) < h 4 1 → h1 3005 i = h 5 i) ∧ ∀ a j, ¬ a = 3005 → ¬ (a = 3004 ∧ j = 1) → h1 a j = h a j) := by
  refine yR.e e_X8_copyFrom_i2 ?_
  refine yR.g (Ps.p (a := 4) (j := 0) (v := 5) (by decide)) ?_
  refine yR.g (Pd.p (a := 4) (j := 0) (v := 5) (by decide)) ?_
  refine yR.g (by omega) ?_
  refine yR.h ?_
  have e1 : zcy h 3005 5 0 0 (h 4 1).toNat 4 1 = h 4 1 := by rw [zcy_app, if_neg (by omega)]
  refine yR.g (by rw [e1]; exact hb) ?_
  refine yR.s ⟨by rw [zup_at, e1], fun i hi => by rw [zup_ne (by omega), zcy_app, if_pos (by omega), show 0 + (i - 0) = i by omega], fun a j w1 w2 => by rw [zup_ne w2, zcy_app, if_neg (by omega)]⟩
set_option maxRecDepth 10000 in
theorem tcp_i2 {n : Nat} {h : yH} (hn : 3 ≤ n) (Pd : cPb 3000 h) (Ps : cPb 0 h) (hb : cBb 0 h) : yR (f_X9_copyFrom_i2 n [3003, 3] h) (fun _ h2 => tcR 3000 0 h h2) := by
  have hds : 3000 + 100 ≤ 0 ∨ 0 + 100 ≤ 3000 := by decide
  refine yR.e e_X9_copyFrom_i2 ?_
  refine yR.g (Pd.p (a := 3) (j := 0) (v := 4) (by decide)) ?_
  refine yR.g (Ps.p (a := 3) (j := 0) (v := 4) (by decide)) ?_
  refine yR.b (tap_i2 (n := n) Pd Ps hb.1) (fun _ h1 ⟨t1, t2, t3⟩ => ?_)
  have Pd1 : cPb 3000 h1 := Pd.fr (fun p hp => t3 _ _ (by
    have : ∀ p ∈ cPLb, p.1 ≠ 5 := by decide +kernel
    have := this p hp
    omega) (by
    have : ∀ p ∈ cPLb, ¬ (p.1 = 4 ∧ p.2.1 = 1) := by decide +kernel
    have := this p hp
    omega))
  have Fs1 : ∀ a j, 3 ≤ a → a ≤ 0 + 79 → h1 a j = h a j := fun a j w1 w2 => t3 a j (by omega) (by omega)
  have Ps1 : cPb 0 h1 := Ps.fr (fun p hp => Fs1 _ _ (by have := cPLb_b p hp; omega) (by have := cPLb_b p hp; omega))
  refine yR.g (Ps1.p (a := 3) (j := 1) (v := 6) (by decide)) ?_
  refine yR.g (Pd1.p (a := 3) (j := 1) (v := 6) (by decide)) ?_
  refine yR.h ?_
  have z5 : ∀ a j, zcy h1 3006 6 0 0 3 a j = if a = 3006 ∧ j < 3 then h1 6 j else h1 a j := fun a j => by
    rw [zcy_app]
    by_cases w : a = 3006 ∧ j < 3
    · rw [if_pos (by omega), if_pos w, show 0 + (j - 0) = j by omega]
    · rw [if_neg (by omega), if_neg w]
  generalize zcy h1 3006 6 0 0 3 = g0 at z5 ⊢
  have Pd0 : cPb 3000 g0 := Pd1.fr (fun p hp => by rw [z5, if_neg (by
    have : ∀ p ∈ cPLb, p.1 ≠ 6 := by decide +kernel
    have := this p hp
    omega)])
  have F0 : ∀ a j, ¬ (3003 ≤ a ∧ a ≤ 3000 + 19) → g0 a j = h a j := fun a j w => by
    rw [z5, if_neg (by omega)]
    exact t3 a j (by omega) (by omega)
  have Ps0 : cPb 0 g0 := Ps.fr (fun p hp => F0 _ _ (by have := cPLb_b p hp; omega))
  have B0 : cBb 0 g0 := hb.fr (fun a j w1 w2 => F0 a j (by omega))
  obtain ⟨n, rfl⟩ : ∃ n', n = n' + 3 := ⟨n - 3, by omega⟩
  refine yR.e e_X9_copyFrom_i2_27 ?_
  refine yR.t (by decide) ?_
  refine yR.g (Pd0.p (a := 3) (j := 2) (v := 7) (by decide)) ?_
  refine yR.g (by decide) ?_
  refine yR.g (Pd0.p (a := 7) (j := 0) (v := 20) (by decide)) ?_
  refine yR.g (Ps0.p (a := 3) (j := 2) (v := 7) (by decide)) ?_
  refine yR.g (by decide) ?_
  refine yR.g (Ps0.p (a := 7) (j := 0) (v := 20) (by decide)) ?_
  refine yR.b (stepS (d := 3000) (s := 0) (i := 0) hds (by decide) Pd0 Ps0 B0) (fun _ g1 ⟨r1, F1, Pd1, Ps1, B1⟩ => ?_)
  refine yR.g (Pd1.p (a := 3) (j := 3) (v := 8) (by decide)) ?_
  refine yR.g (by decide) ?_
  refine yR.g (Pd1.p (a := 8) (j := 0) (v := 40) (by decide)) ?_
  refine yR.g (Ps1.p (a := 3) (j := 3) (v := 8) (by decide)) ?_
  refine yR.g (by decide) ?_
  refine yR.g (Ps1.p (a := 8) (j := 0) (v := 40) (by decide)) ?_
  refine yR.b (stepD (d := 3000) (s := 0) (i := 0) hds (by decide) Pd1 Ps1 B1) (fun _ g2 ⟨r2, F2, Pd2, Ps2, B2⟩ => ?_)
  refine yR.g (Pd2.p (a := 3) (j := 4) (v := 9) (by decide)) ?_
  refine yR.g (by decide) ?_
  refine yR.g (Pd2.p (a := 9) (j := 0) (v := 60) (by decide)) ?_
  refine yR.g (Ps2.p (a := 3) (j := 4) (v := 9) (by decide)) ?_
  refine yR.g (by decide) ?_
  refine yR.g (Ps2.p (a := 9) (j := 0) (v := 60) (by decide)) ?_
  refine yR.b (stepQ (d := 3000) (s := 0) (i := 0) hds (by decide) Pd2 Ps2 B2) (fun _ g3 ⟨r3, F3, Pd3, Ps3, B3⟩ => ?_)
  refine yR.g (by decide) ?_
  refine yR.e e_X9_copyFrom_i2_27 ?_
  refine yR.t (by decide) ?_
  refine yR.g (Pd3.p (a := 3) (j := 2) (v := 7) (by decide)) ?_
  refine yR.g (by decide) ?_
  refine yR.g (Pd3.p (a := 7) (j := 1) (v := 30) (by decide)) ?_
  refine yR.g (Ps3.p (a := 3) (j := 2) (v := 7) (by decide)) ?_
  refine yR.g (by decide) ?_
  refine yR.g (Ps3.p (a := 7) (j := 1) (v := 30) (by decide)) ?_
  refine yR.b (stepS (d := 3000) (s := 0) (i := 1) hds (by decide) Pd3 Ps3 B3) (fun _ g4 ⟨r4, F4, Pd4, Ps4, B4⟩ => ?_)
  refine yR.g (Pd4.p (a := 3) (j := 3) (v := 8) (by decide)) ?_
  refine yR.g (by decide) ?_
  refine yR.g (Pd4.p (a := 8) (j := 1) (v := 50) (by decide)) ?_
  refine yR.g (Ps4.p (a := 3) (j := 3) (v := 8) (by decide)) ?_
  refine yR.g (by decide) ?_
  refine yR.g (Ps4.p (a := 8) (j := 1) (v := 50) (by decide)) ?_
  refine yR.b (stepD (d := 3000) (s := 0) (i := 1) hds (by decide) Pd4 Ps4 B4) (fun _ g5 ⟨r5, F5, Pd5, Ps5, B5⟩ => ?_)
  refine yR.g (Pd5.p (a := 3) (j := 4) (v := 9) (by decide)) ?_
  refine yR.g (by decide) ?_
  refine yR.g (Pd5.p (a := 9) (j := 1) (v := 70) (by decide)) ?_
  refine yR.g (Ps5.p (a := 3) (j := 4) (v := 9) (by decide)) ?_
  refine yR.g (by decide) ?_
  refine yR.g (Ps5.p (a := 9) (j := 1) (v := 70) (by decide)) ?_
  refine yR.b (stepQ (d := 3000) (s := 0) (i := 1) hds (by decide) Pd5 Ps5 B5) (fun _ g6 ⟨r6, F6, Pd6, Ps6, B6⟩ => ?_)
  refine yR.g (by decide) ?_
  refine yR.e e_X9_copyFrom_i2_27 ?_
  refine yR.f (by decide) ?_
  refine yR.s ?_
  have G : ∀ a j, ¬ (3000 + 20 ≤ a ∧ a ≤ 3000 + 79) → g6 a j = g0 a j := fun a j w => by
    rw [F6 a j (by omega), F5 a j (by omega), F4 a j (by omega), F3 a j (by omega), F2 a j (by omega), F1 a j (by omega)]
  have U : ∀ a j, ¬ (a = 3003) → zup (zup g6 3003 5 (g6 3 5)) 3003 6 (g6 3 6) a j = g6 a j := fun a j w => by rw [zup_ne (by omega), zup_ne (by omega)]
  have src : ∀ a j, 3 ≤ a → a ≤ 0 + 79 → g6 a j = h a j := fun a j w1 w2 => (G a j (by omega)).trans (F0 a j (by omega))
  refine ⟨by rw [U _ _ (by omega), G _ _ (by omega), z5, if_neg (by omega)]; exact t1, fun i hi => by rw [U _ _ (by omega), G _ _ (by omega), z5, if_neg (by omega)]; exact t2 i hi, fun j hj => by rw [U _ _ (by omega), G _ _ (by omega), z5, if_pos (by omega)]; exact Fs1 _ _ (by decide) (by decide), fun i hi t ht => ?_, fun i hi t ht => ?_, fun i hi t ht => ?_, ?_, ?_, ?_, fun a j w => ?_⟩
  · rcases (show i = 0 ∨ i = 1 by omega) with rfl | rfl
    · exact cS.at (b := 3000 + 20 + 10 * 0) (fun a j w1 w2 => by rw [U a j (by omega), F6 a j (by omega), F5 a j (by omega), F4 a j (by omega), F3 a j (by omega), F2 a j (by omega)]) (r1 t (cS.at (fun a j w1 w2 => by rw [F0 a j (by omega)]) ht))
    · exact cS.at (b := 3000 + 20 + 10 * 1) (fun a j w1 w2 => by rw [U a j (by omega), F6 a j (by omega), F5 a j (by omega)]) (r4 t (cS.at (fun a j w1 w2 => by rw [F3 a j (by omega), F2 a j (by omega), F1 a j (by omega), F0 a j (by omega)]) ht))
  · rcases (show i = 0 ∨ i = 1 by omega) with rfl | rfl
    · exact cD.at (b := 3000 + 40 + 10 * 0) (fun a j w1 w2 => by rw [U a j (by omega), F6 a j (by omega), F5 a j (by omega), F4 a j (by omega), F3 a j (by omega)]) (r2 t (cD.at (fun a j w1 w2 => by rw [F1 a j (by omega), F0 a j (by omega)]) ht))
    · exact cD.at (b := 3000 + 40 + 10 * 1) (fun a j w1 w2 => by rw [U a j (by omega), F6 a j (by omega)]) (r5 t (cD.at (fun a j w1 w2 => by rw [F4 a j (by omega), F3 a j (by omega), F2 a j (by omega), F1 a j (by omega), F0 a j (by omega)]) ht))
  · rcases (show i = 0 ∨ i = 1 by omega) with rfl | rfl
    · exact cQ.at (b := 3000 + 60 + 10 * 0) (fun a j w1 w2 => by rw [U a j (by omega), F6 a j (by omega), F5 a j (by omega), F4 a j (by omega)]) (r3 t (cQ.at (fun a j w1 w2 => by rw [F2 a j (by omega), F1 a j (by omega), F0 a j (by omega)]) ht))
    · exact cQ.at (b := 3000 + 60 + 10 * 1) (fun a j w1 w2 => by rw [U a j (by omega)]) (r6 t (cQ.at (fun a j w1 w2 => by rw [F5 a j (by omega), F4 a j (by omega), F3 a j (by omega), F2 a j (by omega), F1 a j (by omega), F0 a j (by omega)]) ht))
  · rw [zup_ne (by omega), zup_at]
    exact src _ _ (by decide) (by decide)
  · rw [zup_at]
    exact src _ _ (by decide) (by decide)
  · refine Pd6.fr (fun p hp => ?_)
    have : ∀ p ∈ cPLb, ¬ (p.1 = 3 ∧ (p.2.1 = 5 ∨ p.2.1 = 6)) := by decide +kernel
    have := this p hp
    rw [zup_ne (by omega), zup_ne (by omega)]
  · rw [U a j (by omega), G a j (by omega)]
    exact F0 a j (by omega)
theorem tap_a2 {n : Nat} {h : yH} (Pd : cPb 0 h) (Ps : cPb 3000 h) (hb : 0 ≤ h 3004 1 ∧ h 3004 1 ≤ 600) : yR (f_X8_copyFrom_a2 n [4, 3004] h) (fun _ h1 => h1 4 1 = h 3004 1 ∧ (∀ i : Nat, (i : Int) < h 3004 1 → h1 5 i = h 3005 i) ∧ ∀ a j, ¬ a = 5 → ¬ (a = 4 ∧ j = 1) → h1 a j = h a j) := by
  refine yR.e e_X8_copyFrom_a2 ?_
  refine yR.g (Ps.p (a := 4) (j := 0) (v := 5) (by decide)) ?_
  refine yR.g (Pd.p (a := 4) (j := 0) (v := 5) (by decide)) ?_
  refine yR.g (by omega) ?_
  refine yR.h ?_
  have e1 : zcy h 5 3005 0 0 (h 3004 1).toNat 3004 1 = h 3004 1 := by rw [zcy_app, if_neg (by omega)]
  refine yR.g (by rw [e1]; exact hb) ?_
  refine yR.s ⟨by rw [zup_at, e1], fun i hi => by rw [zup_ne (by omega), zcy_app, if_pos (by omega), show 0 + (i - 0) = i by omega], fun a j w1 w2 => by rw [zup_ne w2, zcy_app, if_neg (by omega)]⟩
set_option maxRecDepth 10000 in
theorem tcp_a2 {n : Nat} {h : yH} (hn : 3 ≤ n) (Pd : cPb 0 h) (Ps : cPb 3000 h) (hb : cBb 3000 h) : yR (f_X9_copyFrom_a2 n [3, 3003] h) (fun _ h2 => tcR 0 3000 h h2) := by
  have hds : 0 + 100 ≤ 3000 ∨ 3000 + 100 ≤ 0 := by decide
  refine yR.e e_X9_copyFrom_a2 ?_
  refine yR.g (Pd.p (a := 3) (j := 0) (v := 4) (by decide)) ?_
  refine yR.g (Ps.p (a := 3) (j := 0) (v := 4) (by decide)) ?_
  refine yR.b (tap_a2 (n := n) Pd Ps hb.1) (fun _ h1 ⟨t1, t2, t3⟩ => ?_)
  have Pd1 : cPb 0 h1 := Pd.fr (fun p hp => t3 _ _ (by
    have : ∀ p ∈ cPLb, p.1 ≠ 5 := by decide +kernel
    have := this p hp
    omega) (by
    have : ∀ p ∈ cPLb, ¬ (p.1 = 4 ∧ p.2.1 = 1) := by decide +kernel
    have := this p hp
    omega))
  have Fs1 : ∀ a j, 3003 ≤ a → a ≤ 3000 + 79 → h1 a j = h a j := fun a j w1 w2 => t3 a j (by omega) (by omega)
  have Ps1 : cPb 3000 h1 := Ps.fr (fun p hp => Fs1 _ _ (by have := cPLb_b p hp; omega) (by have := cPLb_b p hp; omega))
  refine yR.g (Ps1.p (a := 3) (j := 1) (v := 6) (by decide)) ?_
  refine yR.g (Pd1.p (a := 3) (j := 1) (v := 6) (by decide)) ?_
  refine yR.h ?_
  have z5 : ∀ a j, zcy h1 6 3006 0 0 3 a j = if a = 6 ∧ j < 3 then h1 3006 j else h1 a j := fun a j => by
    rw [zcy_app]
    by_cases w : a = 6 ∧ j < 3
    · rw [if_pos (by omega), if_pos w, show 0 + (j - 0) = j by omega]
    · rw [if_neg (by omega), if_neg w]
  generalize zcy h1 6 3006 0 0 3 = g0 at z5 ⊢
  have Pd0 : cPb 0 g0 := Pd1.fr (fun p hp => by rw [z5, if_neg (by
    have : ∀ p ∈ cPLb, p.1 ≠ 6 := by decide +kernel
    have := this p hp
    omega)])
  have F0 : ∀ a j, ¬ (3 ≤ a ∧ a ≤ 0 + 19) → g0 a j = h a j := fun a j w => by
    rw [z5, if_neg (by omega)]
    exact t3 a j (by omega) (by omega)
  have Ps0 : cPb 3000 g0 := Ps.fr (fun p hp => F0 _ _ (by have := cPLb_b p hp; omega))
  have B0 : cBb 3000 g0 := hb.fr (fun a j w1 w2 => F0 a j (by omega))
  obtain ⟨n, rfl⟩ : ∃ n', n = n' + 3 := ⟨n - 3, by omega⟩
  refine yR.e e_X9_copyFrom_a2_27 ?_
  refine yR.t (by decide) ?_
  refine yR.g (Pd0.p (a := 3) (j := 2) (v := 7) (by decide)) ?_
  refine yR.g (by decide) ?_
  refine yR.g (Pd0.p (a := 7) (j := 0) (v := 20) (by decide)) ?_
  refine yR.g (Ps0.p (a := 3) (j := 2) (v := 7) (by decide)) ?_
  refine yR.g (by decide) ?_
  refine yR.g (Ps0.p (a := 7) (j := 0) (v := 20) (by decide)) ?_
  refine yR.b (stepS (d := 0) (s := 3000) (i := 0) hds (by decide) Pd0 Ps0 B0) (fun _ g1 ⟨r1, F1, Pd1, Ps1, B1⟩ => ?_)
  refine yR.g (Pd1.p (a := 3) (j := 3) (v := 8) (by decide)) ?_
  refine yR.g (by decide) ?_
  refine yR.g (Pd1.p (a := 8) (j := 0) (v := 40) (by decide)) ?_
  refine yR.g (Ps1.p (a := 3) (j := 3) (v := 8) (by decide)) ?_
  refine yR.g (by decide) ?_
  refine yR.g (Ps1.p (a := 8) (j := 0) (v := 40) (by decide)) ?_
  refine yR.b (stepD (d := 0) (s := 3000) (i := 0) hds (by decide) Pd1 Ps1 B1) (fun _ g2 ⟨r2, F2, Pd2, Ps2, B2⟩ => ?_)
  refine yR.g (Pd2.p (a := 3) (j := 4) (v := 9) (by decide)) ?_
  refine yR.g (by decide) ?_
  refine yR.g (Pd2.p (a := 9) (j := 0) (v := 60) (by decide)) ?_
  refine yR.g (Ps2.p (a := 3) (j := 4) (v := 9) (by decide)) ?_
  refine yR.g (by decide) ?_
  refine yR.g (Ps2.p (a := 9) (j := 0) (v := 60) (by decide)) ?_
  refine yR.b (stepQ (d := 0) (s := 3000) (i := 0) hds (by decide) Pd2 Ps2 B2) (fun _ g3 ⟨r3, F3, Pd3, Ps3, B3⟩ => ?_)
  refine yR.g (by decide) ?_
  refine yR.e e_X9_copyFrom_a2_27 ?_
  refine yR.t (by decide) ?_
  refine yR.g (Pd3.p (a := 3) (j := 2) (v := 7) (by decide)) ?_
  refine yR.g (by decide) ?_
  refine yR.g (Pd3.p (a := 7) (j := 1) (v := 30) (by decide)) ?_
  refine yR.g (Ps3.p (a := 3) (j := 2) (v := 7) (by decide)) ?_
  refine yR.g (by decide) ?_
  refine yR.g (Ps3.p (a := 7) (j := 1) (v := 30) (by decide)) ?_
  refine yR.b (stepS (d := 0) (s := 3000) (i := 1) hds (by decide) Pd3 Ps3 B3) (fun _ g4 ⟨r4, F4, Pd4, Ps4, B4⟩ => ?_)
  refine yR.g (Pd4.p (a := 3) (j := 3) (v := 8) (by decide)) ?_
  refine yR.g (by decide) ?_
  refine yR.g (Pd4.p (a := 8) (j := 1) (v := 50) (by decide)) ?_
  refine yR.g (Ps4.p (a := 3) (j := 3) (v := 8) (by decide)) ?_
  refine yR.g (by decide) ?_
  refine yR.g (Ps4.p (a := 8) (j := 1) (v := 50) (by decide)) ?_
  refine yR.b (stepD (d := 0) (s := 3000) (i := 1) hds (by decide) Pd4 Ps4 B4) (fun _ g5 ⟨r5, F5, Pd5, Ps5, B5⟩ => ?_)
  refine yR.g (Pd5.p (a := 3) (j := 4) (v := 9) (by decide)) ?_
  refine yR.g (by decide) ?_
  refine yR.g (Pd5.p (a := 9) (j := 1) (v := 70) (by decide)) ?_
  refine yR.g (Ps5.p (a := 3) (j := 4) (v := 9) (by decide)) ?_
  refine yR.g (by decide) ?_
  refine yR.g (Ps5.p (a := 9) (j := 1) (v := 70) (by decide)) ?_
  refine yR.b (stepQ (d := 0) (s := 3000) (i := 1) hds (by decide) Pd5 Ps5 B5) (fun _ g6 ⟨r6, F6, Pd6, Ps6, B6⟩ => ?_)
  refine yR.g (by decide) ?_
  refine yR.e e_X9_copyFrom_a2_27 ?_
  refine yR.f (by decide) ?_
  refine yR.s ?_
  have G : ∀ a j, ¬ (0 + 20 ≤ a ∧ a ≤ 0 + 79) → g6 a j = g0 a j := fun a j w => by
    rw [F6 a j (by omega), F5 a j (by omega), F4 a j (by omega), F3 a j (by omega), F2 a j (by omega), F1 a j (by omega)]
  have U : ∀ a j, ¬ (a = 3) → zup (zup g6 3 5 (g6 3003 5)) 3 6 (g6 3003 6) a j = g6 a j := fun a j w => by rw [zup_ne (by omega), zup_ne (by omega)]
  have src : ∀ a j, 3003 ≤ a → a ≤ 3000 + 79 → g6 a j = h a j := fun a j w1 w2 => (G a j (by omega)).trans (F0 a j (by omega))
  refine ⟨by rw [U _ _ (by omega), G _ _ (by omega), z5, if_neg (by omega)]; exact t1, fun i hi => by rw [U _ _ (by omega), G _ _ (by omega), z5, if_neg (by omega)]; exact t2 i hi, fun j hj => by rw [U _ _ (by omega), G _ _ (by omega), z5, if_pos (by omega)]; exact Fs1 _ _ (by decide) (by decide), fun i hi t ht => ?_, fun i hi t ht => ?_, fun i hi t ht => ?_, ?_, ?_, ?_, fun a j w => ?_⟩
  · rcases (show i = 0 ∨ i = 1 by omega) with rfl | rfl
    · exact cS.at (b := 0 + 20 + 10 * 0) (fun a j w1 w2 => by rw [U a j (by omega), F6 a j (by omega), F5 a j (by omega), F4 a j (by omega), F3 a j (by omega), F2 a j (by omega)]) (r1 t (cS.at (fun a j w1 w2 => by rw [F0 a j (by omega)]) ht))
    · exact cS.at (b := 0 + 20 + 10 * 1) (fun a j w1 w2 => by rw [U a j (by omega), F6 a j (by omega), F5 a j (by omega)]) (r4 t (cS.at (fun a j w1 w2 => by rw [F3 a j (by omega), F2 a j (by omega), F1 a j (by omega), F0 a j (by omega)]) ht))
  · rcases (show i = 0 ∨ i = 1 by omega) with rfl | rfl
    · exact cD.at (b := 0 + 40 + 10 * 0) (fun a j w1 w2 => by rw [U a j (by omega), F6 a j (by omega), F5 a j (by omega), F4 a j (by omega), F3 a j (by omega)]) (r2 t (cD.at (fun a j w1 w2 => by rw [F1 a j (by omega), F0 a j (by omega)]) ht))
    · exact cD.at (b := 0 + 40 + 10 * 1) (fun a j w1 w2 => by rw [U a j (by omega), F6 a j (by omega)]) (r5 t (cD.at (fun a j w1 w2 => by rw [F4 a j (by omega), F3 a j (by omega), F2 a j (by omega), F1 a j (by omega), F0 a j (by omega)]) ht))
  · rcases (show i = 0 ∨ i = 1 by omega) with rfl | rfl
    · exact cQ.at (b := 0 + 60 + 10 * 0) (fun a j w1 w2 => by rw [U a j (by omega), F6 a j (by omega), F5 a j (by omega), F4 a j (by omega)]) (r3 t (cQ.at (fun a j w1 w2 => by rw [F2 a j (by omega), F1 a j (by omega), F0 a j (by omega)]) ht))
    · exact cQ.at (b := 0 + 60 + 10 * 1) (fun a j w1 w2 => by rw [U a j (by omega)]) (r6 t (cQ.at (fun a j w1 w2 => by rw [F5 a j (by omega), F4 a j (by omega), F3 a j (by omega), F2 a j (by omega), F1 a j (by omega), F0 a j (by omega)]) ht))
  · rw [zup_ne (by omega), zup_at]
    exact src _ _ (by decide) (by decide)
  · rw [zup_at]
    exact src _ _ (by decide) (by decide)
  · refine Pd6.fr (fun p hp => ?_)
    have : ∀ p ∈ cPLb, ¬ (p.1 = 3 ∧ (p.2.1 = 5 ∨ p.2.1 = 6)) := by decide +kernel
    have := this p hp
    rw [zup_ne (by omega), zup_ne (by omega)]
  · rw [U a j (by omega), G a j (by omega)]
    exact F0 a j (by omega)
end
section
/-! the reference: told over -/
/-- the cells' numbers within their bounds -/
def rBd (h : yH) : Prop := ∀ a, a ≤ 7 → ∀ j, j < (zkdm.getD a (0, 0, 0, [])).2.2.1 → (zty (zkdm.getD a (0, 0, 0, [])) j).2.1 ≤ h a j ∧ h a j ≤ (zty (zkdm.getD a (0, 0, 0, [])) j).2.2
theorem zpr_5 : ∀ f : Fin 4, ∀ t : Fin 4, ∀ i : Fin 100, zty (zkdm.getD 5 (0, 0, 0, [])) (100 * f.val + i.val) = zty (zkdm.getD 5 (0, 0, 0, [])) (100 * t.val + i.val) := by decide +kernel
theorem zpr_6 : ∀ f : Fin 4, ∀ t : Fin 4, ∀ i : Fin 242, zty (zkdm.getD 6 (0, 0, 0, [])) (242 * f.val + i.val) = zty (zkdm.getD 6 (0, 0, 0, [])) (242 * t.val + i.val) := by decide +kernel
theorem zpr_7 : ∀ f : Fin 4, ∀ t : Fin 4, ∀ i : Fin 104, zty (zkdm.getD 7 (0, 0, 0, [])) (104 * f.val + i.val) = zty (zkdm.getD 7 (0, 0, 0, [])) (104 * t.val + i.val) := by decide +kernel
theorem zty_r1 : ∀ i : Fin 4, zty (zkdm.getD 1 (0, 0, 0, [])) i.val = (0, 0, 600) := by decide +kernel
theorem zty_r4 : ∀ i : Fin 12, zty (zkdm.getD 4 (0, 0, 0, [])) i.val = (0, 0, 2) := by decide +kernel
theorem zty_r0 (j : Nat) : zty (zkdm.getD 0 (0, 0, 0, [])) j = (0, -128, 127) := by
  unfold zty
  rw [show (zkdm.getD 0 (0, 0, 0, [])).2.2.2 = [(0, -128, 127)] from rfl]
  simp [Nat.mod_one]
theorem crow_1_l {h : yH} {f t : Nat} (hf : f < 4) (ht : t < 4) (hft : f ≠ t) (hb : ∀ j, j < 4 → (zty (zkdm.getD 1 (0, 0, 0, [])) j).2.1 ≤ h 1 j ∧ h 1 j ≤ (zty (zkdm.getD 1 (0, 0, 0, [])) j).2.2) : ∀ (m i n : Nat) (g : yH), 1 - i = m → i ≤ 1 → m < n → (∀ a j, g a j = if a = 1 ∧ 1 * t ≤ j ∧ j < 1 * t + i then h 1 (j - 1 * t + 1 * f) else h a j) →
    yR (xl_X12_copyRow_1 n 3 [1, 1, (f : Int), (t : Int), (i : Int)] g) (fun _ h2 => ∀ a j, h2 a j = if a = 1 ∧ 1 * t ≤ j ∧ j < 1 * t + 1 then h 1 (j - 1 * t + 1 * f) else h a j) := by
  intro m
  induction m with
  | zero =>
    intro i n g e1 e2 e3 hg
    obtain ⟨n, rfl⟩ : ∃ n', n = n' + 1 := ⟨n - 1, by omega⟩
    have : i = 1 := by omega
    subst this
    rw [e_X12_copyRow_1_3, if_neg (by decide)]
    exact yR.s hg
  | succ m ih =>
    intro i n g e1 e2 e3 hg
    obtain ⟨n, rfl⟩ : ∃ n', n = n' + 1 := ⟨n - 1, by omega⟩
    have gi : g 1 (1 * f + i) = h 1 (1 * f + i) := by rw [hg, if_neg (by omega)]
    have b := hb (1 * f + i) (show 1 * f + i < 4 by omega)
    rw [zty_r1 ⟨1 * f + i, by omega⟩] at b
    simp only at b
    rw [e_X12_copyRow_1_3, if_pos (by omega), xg_pos (by omega), xg_pos (by omega), xg_pos (by omega), xg_pos (by omega), xg_pos (by omega), xg_pos (by omega), show ((1 : Int) * (f : Int) + (i : Int)).toNat = 1 * f + i by omega, show ((1 : Int) * (t : Int) + (i : Int)).toNat = 1 * t + i by omega, gi, xg_pos b, xg_pos (by omega)]
    refine ih (i + 1) n _ (by omega) (by omega) (by omega) (fun a j => ?_)
    by_cases w : a = 1 ∧ j = 1 * t + i
    · rw [w.1, w.2, zup_at, if_pos (by omega), show 1 * t + i - 1 * t + 1 * f = 1 * f + i by omega]
    · rw [zup_ne w, hg]
      by_cases w2 : a = 1 ∧ 1 * t ≤ j ∧ j < 1 * t + i
      · rw [if_pos w2, if_pos (by omega)]
      · rw [if_neg w2, if_neg (by omega)]
theorem crow_1 {n : Nat} {h : yH} {f t : Nat} (hn : 300 ≤ n) (hf : f < 4) (ht : t < 4) (hft : f ≠ t) (hb : ∀ j, j < 4 → (zty (zkdm.getD 1 (0, 0, 0, [])) j).2.1 ≤ h 1 j ∧ h 1 j ≤ (zty (zkdm.getD 1 (0, 0, 0, [])) j).2.2) : yR (f_X12_copyRow_1 n [1, 1, (f : Int), (t : Int)] h) (fun _ h2 => ∀ a j, h2 a j = if a = 1 ∧ 1 * t ≤ j ∧ j < 1 * t + 1 then h 1 (j - 1 * t + 1 * f) else h a j) := by
  rw [e_X12_copyRow_1]
  exact crow_1_l hf ht hft hb 1 0 n h rfl (by decide) (by omega) (fun a j => by rw [if_neg (by omega)])
theorem crow_2_l {h : yH} {f t : Nat} (hf : f < 4) (ht : t < 4) (hft : f ≠ t) : ∀ (m i n : Nat) (g : yH), 1 - i = m → i ≤ 1 → m < n → (∀ a j, g a j = if a = 2 ∧ 1 * t ≤ j ∧ j < 1 * t + i then h 2 (j - 1 * t + 1 * f) else h a j) →
    yR (xl_X12_copyRow_2 n 3 [2, 1, (f : Int), (t : Int), (i : Int)] g) (fun _ h2 => ∀ a j, h2 a j = if a = 2 ∧ 1 * t ≤ j ∧ j < 1 * t + 1 then h 2 (j - 1 * t + 1 * f) else h a j) := by
  intro m
  induction m with
  | zero =>
    intro i n g e1 e2 e3 hg
    obtain ⟨n, rfl⟩ : ∃ n', n = n' + 1 := ⟨n - 1, by omega⟩
    have : i = 1 := by omega
    subst this
    rw [e_X12_copyRow_2_3, if_neg (by decide)]
    exact yR.s hg
  | succ m ih =>
    intro i n g e1 e2 e3 hg
    obtain ⟨n, rfl⟩ : ∃ n', n = n' + 1 := ⟨n - 1, by omega⟩
    have gi : g 2 (1 * f + i) = h 2 (1 * f + i) := by rw [hg, if_neg (by omega)]
    rw [e_X12_copyRow_2_3, if_pos (by omega), xg_pos (by omega), xg_pos (by omega), xg_pos (by omega), xg_pos (by omega), xg_pos (by omega), xg_pos (by omega), show ((1 : Int) * (f : Int) + (i : Int)).toNat = 1 * f + i by omega, show ((1 : Int) * (t : Int) + (i : Int)).toNat = 1 * t + i by omega, gi, xg_pos (by omega)]
    refine ih (i + 1) n _ (by omega) (by omega) (by omega) (fun a j => ?_)
    by_cases w : a = 2 ∧ j = 1 * t + i
    · rw [w.1, w.2, zup_at, if_pos (by omega), show 1 * t + i - 1 * t + 1 * f = 1 * f + i by omega]
    · rw [zup_ne w, hg]
      by_cases w2 : a = 2 ∧ 1 * t ≤ j ∧ j < 1 * t + i
      · rw [if_pos w2, if_pos (by omega)]
      · rw [if_neg w2, if_neg (by omega)]
theorem crow_2 {n : Nat} {h : yH} {f t : Nat} (hn : 300 ≤ n) (hf : f < 4) (ht : t < 4) (hft : f ≠ t) : yR (f_X12_copyRow_2 n [2, 1, (f : Int), (t : Int)] h) (fun _ h2 => ∀ a j, h2 a j = if a = 2 ∧ 1 * t ≤ j ∧ j < 1 * t + 1 then h 2 (j - 1 * t + 1 * f) else h a j) := by
  rw [e_X12_copyRow_2]
  exact crow_2_l hf ht hft 1 0 n h rfl (by decide) (by omega) (fun a j => by rw [if_neg (by omega)])
theorem crow_3_l {h : yH} {f t : Nat} (hf : f < 4) (ht : t < 4) (hft : f ≠ t) : ∀ (m i n : Nat) (g : yH), 1 - i = m → i ≤ 1 → m < n → (∀ a j, g a j = if a = 3 ∧ 1 * t ≤ j ∧ j < 1 * t + i then h 3 (j - 1 * t + 1 * f) else h a j) →
    yR (xl_X12_copyRow_3 n 3 [3, 1, (f : Int), (t : Int), (i : Int)] g) (fun _ h2 => ∀ a j, h2 a j = if a = 3 ∧ 1 * t ≤ j ∧ j < 1 * t + 1 then h 3 (j - 1 * t + 1 * f) else h a j) := by
  intro m
  induction m with
  | zero =>
    intro i n g e1 e2 e3 hg
    obtain ⟨n, rfl⟩ : ∃ n', n = n' + 1 := ⟨n - 1, by omega⟩
    have : i = 1 := by omega
    subst this
    rw [e_X12_copyRow_3_3, if_neg (by decide)]
    exact yR.s hg
  | succ m ih =>
    intro i n g e1 e2 e3 hg
    obtain ⟨n, rfl⟩ : ∃ n', n = n' + 1 := ⟨n - 1, by omega⟩
    have gi : g 3 (1 * f + i) = h 3 (1 * f + i) := by rw [hg, if_neg (by omega)]
    rw [e_X12_copyRow_3_3, if_pos (by omega), xg_pos (by omega), xg_pos (by omega), xg_pos (by omega), xg_pos (by omega), xg_pos (by omega), xg_pos (by omega), show ((1 : Int) * (f : Int) + (i : Int)).toNat = 1 * f + i by omega, show ((1 : Int) * (t : Int) + (i : Int)).toNat = 1 * t + i by omega, gi, xg_pos (by omega)]
    refine ih (i + 1) n _ (by omega) (by omega) (by omega) (fun a j => ?_)
    by_cases w : a = 3 ∧ j = 1 * t + i
    · rw [w.1, w.2, zup_at, if_pos (by omega), show 1 * t + i - 1 * t + 1 * f = 1 * f + i by omega]
    · rw [zup_ne w, hg]
      by_cases w2 : a = 3 ∧ 1 * t ≤ j ∧ j < 1 * t + i
      · rw [if_pos w2, if_pos (by omega)]
      · rw [if_neg w2, if_neg (by omega)]
theorem crow_3 {n : Nat} {h : yH} {f t : Nat} (hn : 300 ≤ n) (hf : f < 4) (ht : t < 4) (hft : f ≠ t) : yR (f_X12_copyRow_3 n [3, 1, (f : Int), (t : Int)] h) (fun _ h2 => ∀ a j, h2 a j = if a = 3 ∧ 1 * t ≤ j ∧ j < 1 * t + 1 then h 3 (j - 1 * t + 1 * f) else h a j) := by
  rw [e_X12_copyRow_3]
  exact crow_3_l hf ht hft 1 0 n h rfl (by decide) (by omega) (fun a j => by rw [if_neg (by omega)])
theorem crow_4_l {h : yH} {f t : Nat} (hf : f < 4) (ht : t < 4) (hft : f ≠ t) (hb : ∀ j, j < 12 → (zty (zkdm.getD 4 (0, 0, 0, [])) j).2.1 ≤ h 4 j ∧ h 4 j ≤ (zty (zkdm.getD 4 (0, 0, 0, [])) j).2.2) : ∀ (m i n : Nat) (g : yH), 3 - i = m → i ≤ 3 → m < n → (∀ a j, g a j = if a = 4 ∧ 3 * t ≤ j ∧ j < 3 * t + i then h 4 (j - 3 * t + 3 * f) else h a j) →
    yR (xl_X12_copyRow_4 n 3 [4, 3, (f : Int), (t : Int), (i : Int)] g) (fun _ h2 => ∀ a j, h2 a j = if a = 4 ∧ 3 * t ≤ j ∧ j < 3 * t + 3 then h 4 (j - 3 * t + 3 * f) else h a j) := by
  intro m
  induction m with
  | zero =>
    intro i n g e1 e2 e3 hg
    obtain ⟨n, rfl⟩ : ∃ n', n = n' + 1 := ⟨n - 1, by omega⟩
    have : i = 3 := by omega
    subst this
    rw [e_X12_copyRow_4_3, if_neg (by decide)]
    exact yR.s hg
  | succ m ih =>
    intro i n g e1 e2 e3 hg
    obtain ⟨n, rfl⟩ : ∃ n', n = n' + 1 := ⟨n - 1, by omega⟩
    have gi : g 4 (3 * f + i) = h 4 (3 * f + i) := by rw [hg, if_neg (by omega)]
    have b := hb (3 * f + i) (show 3 * f + i < 12 by omega)
    rw [zty_r4 ⟨3 * f + i, by omega⟩] at b
    simp only at b
    rw [e_X12_copyRow_4_3, if_pos (by omega), xg_pos (by omega), xg_pos (by omega), xg_pos (by omega), xg_pos (by omega), xg_pos (by omega), xg_pos (by omega), show ((3 : Int) * (f : Int) + (i : Int)).toNat = 3 * f + i by omega, show ((3 : Int) * (t : Int) + (i : Int)).toNat = 3 * t + i by omega, gi, xg_pos b, xg_pos (by omega)]
    refine ih (i + 1) n _ (by omega) (by omega) (by omega) (fun a j => ?_)
    by_cases w : a = 4 ∧ j = 3 * t + i
    · rw [w.1, w.2, zup_at, if_pos (by omega), show 3 * t + i - 3 * t + 3 * f = 3 * f + i by omega]
    · rw [zup_ne w, hg]
      by_cases w2 : a = 4 ∧ 3 * t ≤ j ∧ j < 3 * t + i
      · rw [if_pos w2, if_pos (by omega)]
      · rw [if_neg w2, if_neg (by omega)]
theorem crow_4 {n : Nat} {h : yH} {f t : Nat} (hn : 300 ≤ n) (hf : f < 4) (ht : t < 4) (hft : f ≠ t) (hb : ∀ j, j < 12 → (zty (zkdm.getD 4 (0, 0, 0, [])) j).2.1 ≤ h 4 j ∧ h 4 j ≤ (zty (zkdm.getD 4 (0, 0, 0, [])) j).2.2) : yR (f_X12_copyRow_4 n [4, 3, (f : Int), (t : Int)] h) (fun _ h2 => ∀ a j, h2 a j = if a = 4 ∧ 3 * t ≤ j ∧ j < 3 * t + 3 then h 4 (j - 3 * t + 3 * f) else h a j) := by
  rw [e_X12_copyRow_4]
  exact crow_4_l hf ht hft hb 3 0 n h rfl (by decide) (by omega) (fun a j => by rw [if_neg (by omega)])
theorem crow_5_l {h : yH} {f t : Nat} (hf : f < 4) (ht : t < 4) (hft : f ≠ t) (hb : ∀ j, j < 400 → (zty (zkdm.getD 5 (0, 0, 0, [])) j).2.1 ≤ h 5 j ∧ h 5 j ≤ (zty (zkdm.getD 5 (0, 0, 0, [])) j).2.2) : ∀ (m i n : Nat) (g : yH), 100 - i = m → i ≤ 100 → m < n → (∀ a j, g a j = if a = 5 ∧ 100 * t ≤ j ∧ j < 100 * t + i then h 5 (j - 100 * t + 100 * f) else h a j) →
    yR (xl_X12_copyRow_5 n 3 [5, 100, (f : Int), (t : Int), (i : Int)] g) (fun _ h2 => ∀ a j, h2 a j = if a = 5 ∧ 100 * t ≤ j ∧ j < 100 * t + 100 then h 5 (j - 100 * t + 100 * f) else h a j) := by
  intro m
  induction m with
  | zero =>
    intro i n g e1 e2 e3 hg
    obtain ⟨n, rfl⟩ : ∃ n', n = n' + 1 := ⟨n - 1, by omega⟩
    have : i = 100 := by omega
    subst this
    rw [e_X12_copyRow_5_3, if_neg (by decide)]
    exact yR.s hg
  | succ m ih =>
    intro i n g e1 e2 e3 hg
    obtain ⟨n, rfl⟩ : ∃ n', n = n' + 1 := ⟨n - 1, by omega⟩
    have gi : g 5 (100 * f + i) = h 5 (100 * f + i) := by rw [hg, if_neg (by omega)]
    have b := hb (100 * f + i) (show 100 * f + i < 400 by omega)
    rw [zpr_5 ⟨f, hf⟩ ⟨t, ht⟩ ⟨i, by omega⟩] at b
    simp only at b
    rw [e_X12_copyRow_5_3, if_pos (by omega), xg_pos (by omega), xg_pos (by omega), xg_pos (by omega), xg_pos (by omega), xg_pos (by omega), xg_pos (by omega), show ((100 : Int) * (f : Int) + (i : Int)).toNat = 100 * f + i by omega, show ((100 : Int) * (t : Int) + (i : Int)).toNat = 100 * t + i by omega, gi, xg_pos b, xg_pos (by omega)]
    refine ih (i + 1) n _ (by omega) (by omega) (by omega) (fun a j => ?_)
    by_cases w : a = 5 ∧ j = 100 * t + i
    · rw [w.1, w.2, zup_at, if_pos (by omega), show 100 * t + i - 100 * t + 100 * f = 100 * f + i by omega]
    · rw [zup_ne w, hg]
      by_cases w2 : a = 5 ∧ 100 * t ≤ j ∧ j < 100 * t + i
      · rw [if_pos w2, if_pos (by omega)]
      · rw [if_neg w2, if_neg (by omega)]
theorem crow_5 {n : Nat} {h : yH} {f t : Nat} (hn : 300 ≤ n) (hf : f < 4) (ht : t < 4) (hft : f ≠ t) (hb : ∀ j, j < 400 → (zty (zkdm.getD 5 (0, 0, 0, [])) j).2.1 ≤ h 5 j ∧ h 5 j ≤ (zty (zkdm.getD 5 (0, 0, 0, [])) j).2.2) : yR (f_X12_copyRow_5 n [5, 100, (f : Int), (t : Int)] h) (fun _ h2 => ∀ a j, h2 a j = if a = 5 ∧ 100 * t ≤ j ∧ j < 100 * t + 100 then h 5 (j - 100 * t + 100 * f) else h a j) := by
  rw [e_X12_copyRow_5]
  exact crow_5_l hf ht hft hb 100 0 n h rfl (by decide) (by omega) (fun a j => by rw [if_neg (by omega)])
theorem crow_6_l {h : yH} {f t : Nat} (hf : f < 4) (ht : t < 4) (hft : f ≠ t) (hb : ∀ j, j < 968 → (zty (zkdm.getD 6 (0, 0, 0, [])) j).2.1 ≤ h 6 j ∧ h 6 j ≤ (zty (zkdm.getD 6 (0, 0, 0, [])) j).2.2) : ∀ (m i n : Nat) (g : yH), 242 - i = m → i ≤ 242 → m < n → (∀ a j, g a j = if a = 6 ∧ 242 * t ≤ j ∧ j < 242 * t + i then h 6 (j - 242 * t + 242 * f) else h a j) →
    yR (xl_X12_copyRow_6 n 3 [6, 242, (f : Int), (t : Int), (i : Int)] g) (fun _ h2 => ∀ a j, h2 a j = if a = 6 ∧ 242 * t ≤ j ∧ j < 242 * t + 242 then h 6 (j - 242 * t + 242 * f) else h a j) := by
  intro m
  induction m with
  | zero =>
    intro i n g e1 e2 e3 hg
    obtain ⟨n, rfl⟩ : ∃ n', n = n' + 1 := ⟨n - 1, by omega⟩
    have : i = 242 := by omega
    subst this
    rw [e_X12_copyRow_6_3, if_neg (by decide)]
    exact yR.s hg
  | succ m ih =>
    intro i n g e1 e2 e3 hg
    obtain ⟨n, rfl⟩ : ∃ n', n = n' + 1 := ⟨n - 1, by omega⟩
    have gi : g 6 (242 * f + i) = h 6 (242 * f + i) := by rw [hg, if_neg (by omega)]
    have b := hb (242 * f + i) (show 242 * f + i < 968 by omega)
    rw [zpr_6 ⟨f, hf⟩ ⟨t, ht⟩ ⟨i, by omega⟩] at b
    simp only at b
    rw [e_X12_copyRow_6_3, if_pos (by omega), xg_pos (by omega), xg_pos (by omega), xg_pos (by omega), xg_pos (by omega), xg_pos (by omega), xg_pos (by omega), show ((242 : Int) * (f : Int) + (i : Int)).toNat = 242 * f + i by omega, show ((242 : Int) * (t : Int) + (i : Int)).toNat = 242 * t + i by omega, gi, xg_pos b, xg_pos (by omega)]
    refine ih (i + 1) n _ (by omega) (by omega) (by omega) (fun a j => ?_)
    by_cases w : a = 6 ∧ j = 242 * t + i
    · rw [w.1, w.2, zup_at, if_pos (by omega), show 242 * t + i - 242 * t + 242 * f = 242 * f + i by omega]
    · rw [zup_ne w, hg]
      by_cases w2 : a = 6 ∧ 242 * t ≤ j ∧ j < 242 * t + i
      · rw [if_pos w2, if_pos (by omega)]
      · rw [if_neg w2, if_neg (by omega)]
theorem crow_6 {n : Nat} {h : yH} {f t : Nat} (hn : 300 ≤ n) (hf : f < 4) (ht : t < 4) (hft : f ≠ t) (hb : ∀ j, j < 968 → (zty (zkdm.getD 6 (0, 0, 0, [])) j).2.1 ≤ h 6 j ∧ h 6 j ≤ (zty (zkdm.getD 6 (0, 0, 0, [])) j).2.2) : yR (f_X12_copyRow_6 n [6, 242, (f : Int), (t : Int)] h) (fun _ h2 => ∀ a j, h2 a j = if a = 6 ∧ 242 * t ≤ j ∧ j < 242 * t + 242 then h 6 (j - 242 * t + 242 * f) else h a j) := by
  rw [e_X12_copyRow_6]
  exact crow_6_l hf ht hft hb 242 0 n h rfl (by decide) (by omega) (fun a j => by rw [if_neg (by omega)])
theorem crow_7_l {h : yH} {f t : Nat} (hf : f < 4) (ht : t < 4) (hft : f ≠ t) (hb : ∀ j, j < 416 → (zty (zkdm.getD 7 (0, 0, 0, [])) j).2.1 ≤ h 7 j ∧ h 7 j ≤ (zty (zkdm.getD 7 (0, 0, 0, [])) j).2.2) : ∀ (m i n : Nat) (g : yH), 104 - i = m → i ≤ 104 → m < n → (∀ a j, g a j = if a = 7 ∧ 104 * t ≤ j ∧ j < 104 * t + i then h 7 (j - 104 * t + 104 * f) else h a j) →
    yR (xl_X12_copyRow_7 n 3 [7, 104, (f : Int), (t : Int), (i : Int)] g) (fun _ h2 => ∀ a j, h2 a j = if a = 7 ∧ 104 * t ≤ j ∧ j < 104 * t + 104 then h 7 (j - 104 * t + 104 * f) else h a j) := by
  intro m
  induction m with
  | zero =>
    intro i n g e1 e2 e3 hg
    obtain ⟨n, rfl⟩ : ∃ n', n = n' + 1 := ⟨n - 1, by omega⟩
    have : i = 104 := by omega
    subst this
    rw [e_X12_copyRow_7_3, if_neg (by decide)]
    exact yR.s hg
  | succ m ih =>
    intro i n g e1 e2 e3 hg
    obtain ⟨n, rfl⟩ : ∃ n', n = n' + 1 := ⟨n - 1, by omega⟩
    have gi : g 7 (104 * f + i) = h 7 (104 * f + i) := by rw [hg, if_neg (by omega)]
    have b := hb (104 * f + i) (show 104 * f + i < 416 by omega)
    rw [zpr_7 ⟨f, hf⟩ ⟨t, ht⟩ ⟨i, by omega⟩] at b
    simp only at b
    rw [e_X12_copyRow_7_3, if_pos (by omega), xg_pos (by omega), xg_pos (by omega), xg_pos (by omega), xg_pos (by omega), xg_pos (by omega), xg_pos (by omega), show ((104 : Int) * (f : Int) + (i : Int)).toNat = 104 * f + i by omega, show ((104 : Int) * (t : Int) + (i : Int)).toNat = 104 * t + i by omega, gi, xg_pos b, xg_pos (by omega)]
    refine ih (i + 1) n _ (by omega) (by omega) (by omega) (fun a j => ?_)
    by_cases w : a = 7 ∧ j = 104 * t + i
    · rw [w.1, w.2, zup_at, if_pos (by omega), show 104 * t + i - 104 * t + 104 * f = 104 * f + i by omega]
    · rw [zup_ne w, hg]
      by_cases w2 : a = 7 ∧ 104 * t ≤ j ∧ j < 104 * t + i
      · rw [if_pos w2, if_pos (by omega)]
      · rw [if_neg w2, if_neg (by omega)]
theorem crow_7 {n : Nat} {h : yH} {f t : Nat} (hn : 300 ≤ n) (hf : f < 4) (ht : t < 4) (hft : f ≠ t) (hb : ∀ j, j < 416 → (zty (zkdm.getD 7 (0, 0, 0, [])) j).2.1 ≤ h 7 j ∧ h 7 j ≤ (zty (zkdm.getD 7 (0, 0, 0, [])) j).2.2) : yR (f_X12_copyRow_7 n [7, 104, (f : Int), (t : Int)] h) (fun _ h2 => ∀ a j, h2 a j = if a = 7 ∧ 104 * t ≤ j ∧ j < 104 * t + 104 then h 7 (j - 104 * t + 104 * f) else h a j) := by
  rw [e_X12_copyRow_7]
  exact crow_7_l hf ht hft hb 104 0 n h rfl (by decide) (by omega) (fun a j => by rw [if_neg (by omega)])
/-- block t is as block f was -/
def raR (f t : Nat) (h h2 : yH) : Prop := (∀ i, i < 600 → h2 0 (600 * t + i) = h 0 (600 * f + i)) ∧ h2 1 t = h 1 f ∧ h2 2 t = h 2 f ∧ h2 3 t = h 3 f ∧ (∀ i, i < 3 → h2 4 (3 * t + i) = h 4 (3 * f + i)) ∧ (∀ i, i < 100 → h2 5 (100 * t + i) = h 5 (100 * f + i)) ∧ (∀ i, i < 242 → h2 6 (242 * t + i) = h 6 (242 * f + i)) ∧ (∀ i, i < 104 → h2 7 (104 * t + i) = h 7 (104 * f + i)) ∧
  (∀ j, ¬ (600 * t ≤ j ∧ j < 600 * t + 600) → h2 0 j = h 0 j) ∧ (∀ a j, a = 1 ∨ a = 2 ∨ a = 3 → j ≠ t → h2 a j = h a j) ∧ (∀ j, ¬ (3 * t ≤ j ∧ j < 3 * t + 3) → h2 4 j = h 4 j) ∧ (∀ j, ¬ (100 * t ≤ j ∧ j < 100 * t + 100) → h2 5 j = h 5 j) ∧ (∀ j, ¬ (242 * t ≤ j ∧ j < 242 * t + 242) → h2 6 j = h 6 j) ∧ (∀ j, ¬ (104 * t ≤ j ∧ j < 104 * t + 104) → h2 7 j = h 7 j) ∧ ∀ a j, 8 ≤ a → h2 a j = h a j
theorem call_t {n : Nat} {h g : yH} {f t : Nat} (hn : 300 ≤ n) (hp : rP h) (hb : rBd h) (hf : f < 4) (ht : t < 4) (hft : f ≠ t) (hg : ∀ a j, g a j = if a = 0 ∧ 600 * t ≤ j ∧ j < 600 * t + 600 then h 0 (j - 600 * t + 600 * f) else h a j) : yR (xl_X12_copyAll (n + 1) 2 [35, (f : Int), (t : Int), 600] g) (fun _ h2 => raR f t h h2) := by
  have G : ∀ a j, a ≠ 0 → g a j = h a j := fun a j w => by rw [hg, if_neg (by omega)]
  refine yR.e e_X12_copyAll_2 ?_
  refine yR.f (by decide) ?_
  refine yR.g (by rw [G _ _ (by decide)]; exact hp.2.1) ?_
  have B1 : ∀ j, j < 4 → (zty (zkdm.getD 1 (0, 0, 0, [])) j).2.1 ≤ g 1 j ∧ g 1 j ≤ (zty (zkdm.getD 1 (0, 0, 0, [])) j).2.2 := fun j hj => by
    rw [G _ _ (by decide)]
    exact hb 1 (by decide) j hj
  refine yR.b (crow_1 hn hf ht hft B1) (fun _ h1 E1 => ?_)
  refine yR.g (by rw [E1 _ _, if_neg (by omega), G _ _ (by decide)]; exact hp.2.2.1) ?_
  refine yR.b (crow_2 hn hf ht hft) (fun _ h2 E2 => ?_)
  refine yR.g (by rw [E2 _ _, if_neg (by omega), E1 _ _, if_neg (by omega), G _ _ (by decide)]; exact hp.2.2.2.1) ?_
  refine yR.b (crow_3 hn hf ht hft) (fun _ h3 E3 => ?_)
  refine yR.g (by rw [E3 _ _, if_neg (by omega), E2 _ _, if_neg (by omega), E1 _ _, if_neg (by omega), G _ _ (by decide)]; exact hp.2.2.2.2.1) ?_
  have B4 : ∀ j, j < 12 → (zty (zkdm.getD 4 (0, 0, 0, [])) j).2.1 ≤ h3 4 j ∧ h3 4 j ≤ (zty (zkdm.getD 4 (0, 0, 0, [])) j).2.2 := fun j hj => by
    rw [E3 _ _, if_neg (by omega), E2 _ _, if_neg (by omega), E1 _ _, if_neg (by omega), G _ _ (by decide)]
    exact hb 4 (by decide) j hj
  refine yR.b (crow_4 hn hf ht hft B4) (fun _ h4 E4 => ?_)
  refine yR.g (by rw [E4 _ _, if_neg (by omega), E3 _ _, if_neg (by omega), E2 _ _, if_neg (by omega), E1 _ _, if_neg (by omega), G _ _ (by decide)]; exact hp.2.2.2.2.2.1) ?_
  have B5 : ∀ j, j < 400 → (zty (zkdm.getD 5 (0, 0, 0, [])) j).2.1 ≤ h4 5 j ∧ h4 5 j ≤ (zty (zkdm.getD 5 (0, 0, 0, [])) j).2.2 := fun j hj => by
    rw [E4 _ _, if_neg (by omega), E3 _ _, if_neg (by omega), E2 _ _, if_neg (by omega), E1 _ _, if_neg (by omega), G _ _ (by decide)]
    exact hb 5 (by decide) j hj
  refine yR.b (crow_5 hn hf ht hft B5) (fun _ h5 E5 => ?_)
  refine yR.g (by rw [E5 _ _, if_neg (by omega), E4 _ _, if_neg (by omega), E3 _ _, if_neg (by omega), E2 _ _, if_neg (by omega), E1 _ _, if_neg (by omega), G _ _ (by decide)]; exact hp.2.2.2.2.2.2.1) ?_
  have B6 : ∀ j, j < 968 → (zty (zkdm.getD 6 (0, 0, 0, [])) j).2.1 ≤ h5 6 j ∧ h5 6 j ≤ (zty (zkdm.getD 6 (0, 0, 0, [])) j).2.2 := fun j hj => by
    rw [E5 _ _, if_neg (by omega), E4 _ _, if_neg (by omega), E3 _ _, if_neg (by omega), E2 _ _, if_neg (by omega), E1 _ _, if_neg (by omega), G _ _ (by decide)]
    exact hb 6 (by decide) j hj
  refine yR.b (crow_6 hn hf ht hft B6) (fun _ h6 E6 => ?_)
  refine yR.g (by rw [E6 _ _, if_neg (by omega), E5 _ _, if_neg (by omega), E4 _ _, if_neg (by omega), E3 _ _, if_neg (by omega), E2 _ _, if_neg (by omega), E1 _ _, if_neg (by omega), G _ _ (by decide)]; exact hp.2.2.2.2.2.2.2.1) ?_
  have B7 : ∀ j, j < 416 → (zty (zkdm.getD 7 (0, 0, 0, [])) j).2.1 ≤ h6 7 j ∧ h6 7 j ≤ (zty (zkdm.getD 7 (0, 0, 0, [])) j).2.2 := fun j hj => by
    rw [E6 _ _, if_neg (by omega), E5 _ _, if_neg (by omega), E4 _ _, if_neg (by omega), E3 _ _, if_neg (by omega), E2 _ _, if_neg (by omega), E1 _ _, if_neg (by omega), G _ _ (by decide)]
    exact hb 7 (by decide) j hj
  refine yR.b (crow_7 hn hf ht hft B7) (fun _ h7 E7 => ?_)
  refine yR.s ?_
  refine ⟨fun i hi => ?_, ?_, ?_, ?_, fun i hi => ?_, fun i hi => ?_, fun i hi => ?_, fun i hi => ?_, fun j w => ?_, fun a j w w2 => ?_, fun j w => ?_, fun j w => ?_, fun j w => ?_, fun j w => ?_, fun a j w => ?_⟩
  · rw [E7 _ _, if_neg (by omega), E6 _ _, if_neg (by omega), E5 _ _, if_neg (by omega), E4 _ _, if_neg (by omega), E3 _ _, if_neg (by omega), E2 _ _, if_neg (by omega), E1 _ _, if_neg (by omega), hg, if_pos (by omega), show 600 * t + i - 600 * t + 600 * f = 600 * f + i by omega]
  · rw [E7 _ _, if_neg (by omega), E6 _ _, if_neg (by omega), E5 _ _, if_neg (by omega), E4 _ _, if_neg (by omega), E3 _ _, if_neg (by omega), E2 _ _, if_neg (by omega), E1, if_pos (by omega), show t - 1 * t + 1 * f = f by omega, G _ _ (by decide)]
  · rw [E7 _ _, if_neg (by omega), E6 _ _, if_neg (by omega), E5 _ _, if_neg (by omega), E4 _ _, if_neg (by omega), E3 _ _, if_neg (by omega), E2, if_pos (by omega), show t - 1 * t + 1 * f = f by omega, E1 _ _, if_neg (by omega), G _ _ (by decide)]
  · rw [E7 _ _, if_neg (by omega), E6 _ _, if_neg (by omega), E5 _ _, if_neg (by omega), E4 _ _, if_neg (by omega), E3, if_pos (by omega), show t - 1 * t + 1 * f = f by omega, E2 _ _, if_neg (by omega), E1 _ _, if_neg (by omega), G _ _ (by decide)]
  · rw [E7 _ _, if_neg (by omega), E6 _ _, if_neg (by omega), E5 _ _, if_neg (by omega), E4, if_pos (by omega), show 3 * t + i - 3 * t + 3 * f = 3 * f + i by omega, E3 _ _, if_neg (by omega), E2 _ _, if_neg (by omega), E1 _ _, if_neg (by omega), G _ _ (by decide)]
  · rw [E7 _ _, if_neg (by omega), E6 _ _, if_neg (by omega), E5, if_pos (by omega), show 100 * t + i - 100 * t + 100 * f = 100 * f + i by omega, E4 _ _, if_neg (by omega), E3 _ _, if_neg (by omega), E2 _ _, if_neg (by omega), E1 _ _, if_neg (by omega), G _ _ (by decide)]
  · rw [E7 _ _, if_neg (by omega), E6, if_pos (by omega), show 242 * t + i - 242 * t + 242 * f = 242 * f + i by omega, E5 _ _, if_neg (by omega), E4 _ _, if_neg (by omega), E3 _ _, if_neg (by omega), E2 _ _, if_neg (by omega), E1 _ _, if_neg (by omega), G _ _ (by decide)]
  · rw [E7, if_pos (by omega), show 104 * t + i - 104 * t + 104 * f = 104 * f + i by omega, E6 _ _, if_neg (by omega), E5 _ _, if_neg (by omega), E4 _ _, if_neg (by omega), E3 _ _, if_neg (by omega), E2 _ _, if_neg (by omega), E1 _ _, if_neg (by omega), G _ _ (by decide)]
  · rw [E7 _ _, if_neg (by omega), E6 _ _, if_neg (by omega), E5 _ _, if_neg (by omega), E4 _ _, if_neg (by omega), E3 _ _, if_neg (by omega), E2 _ _, if_neg (by omega), E1 _ _, if_neg (by omega), hg, if_neg (by omega)]
  · rw [E7 _ _, if_neg (by omega), E6 _ _, if_neg (by omega), E5 _ _, if_neg (by omega), E4 _ _, if_neg (by omega), E3 _ _, if_neg (by omega), E2 _ _, if_neg (by omega), E1 _ _, if_neg (by omega), G _ _ (by omega)]
  · rw [E7 _ _, if_neg (by omega), E6 _ _, if_neg (by omega), E5 _ _, if_neg (by omega), E4 _ _, if_neg (by omega), E3 _ _, if_neg (by omega), E2 _ _, if_neg (by omega), E1 _ _, if_neg (by omega), G _ _ (by decide)]
  · rw [E7 _ _, if_neg (by omega), E6 _ _, if_neg (by omega), E5 _ _, if_neg (by omega), E4 _ _, if_neg (by omega), E3 _ _, if_neg (by omega), E2 _ _, if_neg (by omega), E1 _ _, if_neg (by omega), G _ _ (by decide)]
  · rw [E7 _ _, if_neg (by omega), E6 _ _, if_neg (by omega), E5 _ _, if_neg (by omega), E4 _ _, if_neg (by omega), E3 _ _, if_neg (by omega), E2 _ _, if_neg (by omega), E1 _ _, if_neg (by omega), G _ _ (by decide)]
  · rw [E7 _ _, if_neg (by omega), E6 _ _, if_neg (by omega), E5 _ _, if_neg (by omega), E4 _ _, if_neg (by omega), E3 _ _, if_neg (by omega), E2 _ _, if_neg (by omega), E1 _ _, if_neg (by omega), G _ _ (by decide)]
  · rw [E7 _ _, if_neg (by omega), E6 _ _, if_neg (by omega), E5 _ _, if_neg (by omega), E4 _ _, if_neg (by omega), E3 _ _, if_neg (by omega), E2 _ _, if_neg (by omega), E1 _ _, if_neg (by omega), G _ _ (by omega)]
theorem call_l {h : yH} {f t : Nat} (hp : rP h) (hb : rBd h) (hf : f < 4) (ht : t < 4) (hft : f ≠ t) : ∀ (m i n : Nat) (g : yH), 600 - i = m → i ≤ 600 → m + 301 ≤ n → (∀ a j, g a j = if a = 0 ∧ 600 * t ≤ j ∧ j < 600 * t + i then h 0 (j - 600 * t + 600 * f) else h a j) → yR (xl_X12_copyAll n 2 [35, (f : Int), (t : Int), (i : Int)] g) (fun _ h2 => raR f t h h2) := by
  intro m
  induction m with
  | zero =>
    intro i n g e1 e2 e3 hg
    obtain ⟨n, rfl⟩ : ∃ n', n = n' + 1 := ⟨n - 1, by omega⟩
    have : i = 600 := by omega
    subst this
    exact call_t (by omega) hp hb hf ht hft hg
  | succ m ih =>
    intro i n g e1 e2 e3 hg
    obtain ⟨n, rfl⟩ : ∃ n', n = n' + 1 := ⟨n - 1, by omega⟩
    have gi : g 0 (600 * f + i) = h 0 (600 * f + i) := by rw [hg, if_neg (by omega)]
    have g1 : g 35 1 = 0 := by rw [hg, if_neg (by omega)]; exact hp.1
    have b := hb 0 (by decide) (600 * f + i) (show 600 * f + i < 2400 by omega)
    rw [zty_r0] at b
    simp only at b
    rw [e_X12_copyAll_2, if_pos (by omega), xg_pos g1, xg_pos (by omega), xg_pos (by omega), xg_pos g1, xg_pos (by omega), xg_pos (by omega), xg_pos (by omega), xg_pos (by omega), show ((600 : Int) * (f : Int) + (i : Int)).toNat = 600 * f + i by omega, show ((600 : Int) * (t : Int) + (i : Int)).toNat = 600 * t + i by omega, gi, xg_pos b, xg_pos (by omega)]
    refine ih (i + 1) n _ (by omega) (by omega) (by omega) (fun a j => ?_)
    by_cases w : a = 0 ∧ j = 600 * t + i
    · rw [w.1, w.2, zup_at, if_pos (by omega), show 600 * t + i - 600 * t + 600 * f = 600 * f + i by omega]
    · rw [zup_ne w, hg]
      by_cases w2 : a = 0 ∧ 600 * t ≤ j ∧ j < 600 * t + i
      · rw [if_pos w2, if_pos (by omega)]
      · rw [if_neg w2, if_neg (by omega)]
theorem call_e {n : Nat} {h : yH} {f t : Nat} (hn : 1000 ≤ n) (hp : rP h) (hb : rBd h) (hf : f < 4) (ht : t < 4) (hft : f ≠ t) : yR (f_X12_copyAll n [35, (f : Int), (t : Int)] h) (fun _ h2 => raR f t h h2) := by
  rw [e_X12_copyAll]
  exact call_l hp hb hf ht hft 600 0 n h rfl (by decide) (by omega) (fun a j => by rw [if_neg (by omega)])
end
section
/-! feed and end of both -/
def fXs (x1 x2 x3 x4 x5 : Int) (q : Nat) : Int := [x1, x2, x3, x4, x5].getD q 0
/-- the bytes that come -/
def fBy (xs : Nat → Int) (i : Nat) : Int := rBy (xs (i / 4)) (i % 4)
def fS (A L l : Nat) (xs : Nat → Int) (m p : Nat) (h g : yH) : Prop := ∀ a j, ¬ (a = L ∧ j = l) → g a j = if a = A ∧ m ≤ j ∧ j < m + 4 * p then fBy xs (j - m) else h a j
theorem fS_0 {A L l : Nat} {xs : Nat → Int} {m : Nat} {h : yH} : fS A L l xs m 0 h h := fun a j _ => by rw [if_neg (by omega)]
theorem fS_s {A L l : Nat} {xs : Nat → Int} {m p : Nat} {x : Int} {by' : Int → Nat → Int} {h g g2 : yH} (hx : xs p = x) (hb : ∀ i, i < 4 → by' x i = rBy x i) (S : fS A L l xs m p h g) (e : ∀ a j, ¬ (a = L ∧ j = l) → g2 a j = if a = A ∧ m + 4 * p ≤ j ∧ j < m + 4 * p + 4 then by' x (j - (m + 4 * p)) else g a j) : fS A L l xs m (p + 1) h g2 := by
  intro a j w
  rw [e a j w]
  by_cases c : a = A ∧ m + 4 * p ≤ j ∧ j < m + 4 * p + 4
  · rw [if_pos c, if_pos (by omega), hb _ (by omega)]
    unfold fBy
    rw [show (j - m) / 4 = p by omega, hx, show (j - m) % 4 = j - (m + 4 * p) by omega]
  · rw [if_neg c, S a j w]
    by_cases c2 : a = A ∧ m ≤ j ∧ j < m + 4 * p
    · rw [if_pos c2, if_pos (by omega)]
    · rw [if_neg c2, if_neg (by omega)]
theorem cBy_b (x : Int) : ∀ i, i < 4 → -128 ≤ cBy x i ∧ cBy x i ≤ 127 := fun _ _ => yi2b_b _
theorem rBy_b (x : Int) : ∀ i, i < 4 → -128 ≤ rBy x i ∧ rBy x i ≤ 127 := fun _ _ => yi2b_b _
theorem put_r {n m : Nat} {x : Int} {h : yH} (hn : 6 ≤ n) (hP : cP h) (h4 : h 4 1 = (m : Int)) (hm : m + 4 ≤ 600) : yR (f_X8_put n [4, x] h) (fun _ h2 => cP h2 ∧ h2 4 1 = (m : Int) + 4 ∧ ∀ a j, ¬ (a = 4 ∧ j = 1) → h2 a j = if a = 5 ∧ m ≤ j ∧ j < m + 4 then cBy x (j - m) else h a j) := by
  obtain ⟨h2, e, r⟩ := put_e (n := n) (x := x) hn hP h4 hm (cBy_b x)
  exact ⟨0, h2, e, r⟩
theorem four_r {n m : Nat} {x : Int} {h : yH} (hn : 6 ≤ n) (hP : rP h) (h4 : h 1 0 = (m : Int)) (hm : m + 4 ≤ 600) : yR (f_X12_four n [35, x] h) (fun _ h2 => rP h2 ∧ h2 1 0 = (m : Int) + 4 ∧ ∀ a j, ¬ (a = 1 ∧ j = 0) → h2 a j = if a = 0 ∧ m ≤ j ∧ j < m + 4 then rBy x (j - m) else h a j) := by
  obtain ⟨h2, e, r⟩ := four_e (n := n) (x := x) hn hP h4 hm (rBy_b x)
  exact ⟨0, h2, e, r⟩
theorem feedC_r {n m : Nat} {x1 x2 x3 x4 x5 : Int} {h : yH} (hn : 6 ≤ n) (hP : cP h) (h4 : h 4 1 = (m : Int)) (hm : m ≤ 600) : yR (f_X11_feed n [1, x1, x2, x3, x4, x5] h) (fun v h2 => cP h2 ∧ ((600 < m + 20 ∧ v = -1 ∧ h2 = h) ∨ (m + 20 ≤ 600 ∧ v = (m : Int) + 20 ∧ h2 4 1 = (m : Int) + 20 ∧ fS 5 4 1 (fXs x1 x2 x3 x4 x5) m 5 h h2))) := by
  refine yR.e e_X11_feed ?_
  refine yR.g (hP.p (by decide)) ?_
  refine yR.g (hP.p (by decide)) ?_
  rw [h4]
  refine yR.g (by omega) ?_
  refine yR.c (fun w => yR.s ⟨hP, Or.inl ⟨by omega, rfl, rfl⟩⟩) (fun w => ?_)
  refine yR.b (put_r (n := n) (m := m + 4 * 0) (x := x1) hn hP (by rw [h4]; omega) (by omega)) (fun _ g1 ⟨P1, l1, e1⟩ => ?_)
  have S1 : fS 5 4 1 (fXs x1 x2 x3 x4 x5) m 1 h g1 := fS_s (p := 0) (x := x1) rfl (fun i hi => by_eq hi) fS_0 e1
  refine yR.b (put_r (n := n) (m := m + 4 * 1) (x := x2) hn P1 (by rw [l1]; omega) (by omega)) (fun _ g2 ⟨P2, l2, e2⟩ => ?_)
  have S2 : fS 5 4 1 (fXs x1 x2 x3 x4 x5) m 2 h g2 := fS_s (p := 1) (x := x2) rfl (fun i hi => by_eq hi) S1 e2
  refine yR.b (put_r (n := n) (m := m + 4 * 2) (x := x3) hn P2 (by rw [l2]; omega) (by omega)) (fun _ g3 ⟨P3, l3, e3⟩ => ?_)
  have S3 : fS 5 4 1 (fXs x1 x2 x3 x4 x5) m 3 h g3 := fS_s (p := 2) (x := x3) rfl (fun i hi => by_eq hi) S2 e3
  refine yR.b (put_r (n := n) (m := m + 4 * 3) (x := x4) hn P3 (by rw [l3]; omega) (by omega)) (fun _ g4 ⟨P4, l4, e4⟩ => ?_)
  have S4 : fS 5 4 1 (fXs x1 x2 x3 x4 x5) m 4 h g4 := fS_s (p := 3) (x := x4) rfl (fun i hi => by_eq hi) S3 e4
  refine yR.b (put_r (n := n) (m := m + 4 * 4) (x := x5) hn P4 (by rw [l4]; omega) (by omega)) (fun _ g5 ⟨P5, l5, e5⟩ => ?_)
  have S5 : fS 5 4 1 (fXs x1 x2 x3 x4 x5) m 5 h g5 := fS_s (p := 4) (x := x5) rfl (fun i hi => by_eq hi) S4 e5
  exact yR.s ⟨P5, Or.inr ⟨by omega, by rw [l5]; omega, by rw [l5]; omega, S5⟩⟩
theorem feedR_r {n m : Nat} {x1 x2 x3 x4 x5 : Int} {h : yH} (hn : 6 ≤ n) (hP : rP h) (h4 : h 1 0 = (m : Int)) (hm : m ≤ 600) : yR (f_X12_feed n [35, x1, x2, x3, x4, x5] h) (fun v h2 => rP h2 ∧ ((600 < m + 20 ∧ v = -1 ∧ h2 = (zup h 35 0 0)) ∨ (m + 20 ≤ 600 ∧ v = (m : Int) + 20 ∧ h2 1 0 = (m : Int) + 20 ∧ fS 0 1 0 (fXs x1 x2 x3 x4 x5) m 5 (zup h 35 0 0) h2))) := by
  refine yR.e e_X12_feed ?_
  refine yR.g hP.2.1 ?_
  rw [h4]
  refine yR.g (by omega) ?_
  have P0 : rP (zup h 35 0 0) := hP.fr (fun j hj => by rw [zup_ne (by omega)])
  have l0 : (zup h 35 0 0) 1 0 = (m : Int) := by rw [zup_ne (by omega)]; exact h4
  refine yR.c (fun w => yR.s ⟨P0, Or.inl ⟨by omega, rfl, rfl⟩⟩) (fun w => ?_)
  generalize zup h 35 0 0 = g0 at P0 l0 ⊢
  refine yR.b (four_r (n := n) (m := m + 4 * 0) (x := x1) hn P0 (by rw [l0]; omega) (by omega)) (fun _ g1 ⟨P1, l1, e1⟩ => ?_)
  have S1 : fS 0 1 0 (fXs x1 x2 x3 x4 x5) m 1 g0 g1 := fS_s (p := 0) (x := x1) rfl (fun i hi => rfl) fS_0 e1
  refine yR.b (four_r (n := n) (m := m + 4 * 1) (x := x2) hn P1 (by rw [l1]; omega) (by omega)) (fun _ g2 ⟨P2, l2, e2⟩ => ?_)
  have S2 : fS 0 1 0 (fXs x1 x2 x3 x4 x5) m 2 g0 g2 := fS_s (p := 1) (x := x2) rfl (fun i hi => rfl) S1 e2
  refine yR.b (four_r (n := n) (m := m + 4 * 2) (x := x3) hn P2 (by rw [l2]; omega) (by omega)) (fun _ g3 ⟨P3, l3, e3⟩ => ?_)
  have S3 : fS 0 1 0 (fXs x1 x2 x3 x4 x5) m 3 g0 g3 := fS_s (p := 2) (x := x3) rfl (fun i hi => rfl) S2 e3
  refine yR.b (four_r (n := n) (m := m + 4 * 3) (x := x4) hn P3 (by rw [l3]; omega) (by omega)) (fun _ g4 ⟨P4, l4, e4⟩ => ?_)
  have S4 : fS 0 1 0 (fXs x1 x2 x3 x4 x5) m 4 g0 g4 := fS_s (p := 3) (x := x4) rfl (fun i hi => rfl) S3 e4
  refine yR.b (four_r (n := n) (m := m + 4 * 4) (x := x5) hn P4 (by rw [l4]; omega) (by omega)) (fun _ g5 ⟨P5, l5, e5⟩ => ?_)
  have S5 : fS 0 1 0 (fXs x1 x2 x3 x4 x5) m 5 g0 g5 := fS_s (p := 4) (x := x5) rfl (fun i hi => rfl) S4 e5
  refine yR.g P5.2.1 ?_
  exact yR.s ⟨P5, Or.inr ⟨by omega, by rw [l5]; omega, by rw [l5]; omega, S5⟩⟩
theorem endC_r {n : Nat} {x : Int} {h : yH} (hP : cP h) (hm : 0 ≤ h 4 1 ∧ h 4 1 ≤ 600) : yR (f_X11_end n [1, x] h) (fun v h2 => (¬ (0 ≤ x ∧ x ≤ h 4 1) ∧ v = -1 ∧ h2 = h) ∨ ((0 ≤ x ∧ x ≤ h 4 1) ∧ v = x ∧ h2 = zup h 4 1 x)) := by
  refine yR.e e_X11_end ?_
  refine yR.c (fun w => yR.s (Or.inl ⟨by omega, rfl, rfl⟩)) (fun w => ?_)
  refine yR.g (hP.p (by decide)) ?_
  refine yR.g (hP.p (by decide)) ?_
  refine yR.c (fun w2 => yR.s (Or.inl ⟨by omega, rfl, rfl⟩)) (fun w2 => ?_)
  refine yR.g (hP.p (by decide)) ?_
  refine yR.g (hP.p (by decide)) ?_
  refine yR.g (by omega) ?_
  exact yR.s (Or.inr ⟨by omega, rfl, rfl⟩)
theorem endR_r {n : Nat} {x : Int} {h : yH} (hP : rP h) (hm : 0 ≤ h 1 0 ∧ h 1 0 ≤ 600) : yR (f_X12_end n [35, x] h) (fun v h2 => (¬ (0 ≤ x ∧ x ≤ h 1 0) ∧ v = -1 ∧ h2 = zup h 35 0 0) ∨ ((0 ≤ x ∧ x ≤ h 1 0) ∧ v = x ∧ h2 = zup (zup h 35 0 0) 1 0 x)) := by
  refine yR.e e_X12_end ?_
  refine yR.g hP.2.1 ?_
  by_cases w : 0 ≤ x ∧ x ≤ h 1 0
  · rw [in_t w, xb_some]
    refine yR.f (by decide) ?_
    refine yR.g (by rw [zup_ne (by omega)]; exact hP.2.1) ?_
    refine yR.g (by omega) ?_
    exact yR.s (Or.inr ⟨w, rfl, rfl⟩)
  · rw [in_f w, xb_some]
    refine yR.t rfl ?_
    exact yR.s (Or.inl ⟨w, rfl, rfl⟩)
end
section
/-! what the class tells and what the reference tells are the same: told at B, and block κ -/
def RB (F : Prop) (B κ : Nat) (h g : yH) : Prop := h (B + 4) 1 = g 1 κ ∧ (∀ i : Nat, (i : Int) < h (B + 4) 1 → h (B + 5) i = g 0 (600 * κ + i)) ∧ (∀ j, j < 3 → h (B + 6) j = g 4 (3 * κ + j)) ∧ h (B + 3) 5 = g 2 κ ∧ h (B + 3) 6 = g 3 κ ∧
  (∀ i, i < 2 → ∃ t : Nat → Int, (F → cS (B + 20 + 10 * i) t h) ∧ (∀ j, j < 50 → g 5 (100 * κ + 50 * i + j) = t j) ∧ ((i : Int) < g 4 (3 * κ) → tW0 t)) ∧
  (∀ i, i < 2 → ∃ t : Nat → Int, cD (B + 40 + 10 * i) t h ∧ (∀ j, j < 121 → g 6 (242 * κ + 121 * i + j) = t j) ∧ ((i : Int) < g 4 (3 * κ + 1) → tW1 t)) ∧
  (∀ i, i < 2 → ∃ t : Nat → Int, cQ (B + 60 + 10 * i) t h ∧ (∀ j, j < 52 → g 7 (104 * κ + 52 * i + j) = t j) ∧ ((i : Int) < g 4 (3 * κ + 2) → tW2 t))
def RI (F : Prop) (h g : yH) : Prop := ∀ k, k < 3 → (g 34 k = 0 ∧ h 2 k = -1) ∨ (g 34 k = 1 ∧ h 2 k = ((1000 * (k + 1) + 3 : Nat) : Int) ∧ cPb (1000 * (k + 1)) h ∧ RB F (1000 * (k + 1)) (k + 1) h g)
def RR (F : Prop) (h g : yH) : Prop := cP h ∧ rP g ∧ RB F 0 0 h g ∧ RI F h g
theorem RB.fr {F : Prop} {B κ : Nat} {h h2 g g2 : yH} (R : RB F B κ h g) (hc : ∀ a j, B + 3 ≤ a → a ≤ B + 79 → h2 a j = h a j) (h0 : ∀ j, 600 * κ ≤ j → j < 600 * κ + 600 → g2 0 j = g 0 j) (h1 : g2 1 κ = g 1 κ ∧ g2 2 κ = g 2 κ ∧ g2 3 κ = g 3 κ) (h4 : ∀ j, 3 * κ ≤ j → j < 3 * κ + 3 → g2 4 j = g 4 j)
    (h5 : ∀ j, 100 * κ ≤ j → j < 100 * κ + 100 → g2 5 j = g 5 j) (h6 : ∀ j, 242 * κ ≤ j → j < 242 * κ + 242 → g2 6 j = g 6 j) (h7 : ∀ j, 104 * κ ≤ j → j < 104 * κ + 104 → g2 7 j = g 7 j) (hl : h (B + 4) 1 ≤ 600) : RB F B κ h2 g2 := by
  obtain ⟨r1, r2, r3, r4, r5, r6, r7, r8⟩ := R
  refine ⟨by rw [hc _ _ (by omega) (by omega), h1.1]; exact r1, fun i hi => ?_, fun j hj => ?_, by rw [hc _ _ (by omega) (by omega), h1.2.1]; exact r4, by rw [hc _ _ (by omega) (by omega), h1.2.2]; exact r5, fun i hi => ?_, fun i hi => ?_, fun i hi => ?_⟩
  · rw [hc _ _ (by omega) (by omega)] at hi
    rw [hc _ _ (by omega) (by omega), h0 _ (by omega) (by omega)]
    exact r2 i hi
  · rw [hc _ _ (by omega) (by omega), h4 _ (by omega) (by omega)]
    exact r3 j hj
  · obtain ⟨t, a1, a2, a3⟩ := r6 i hi
    refine ⟨t, fun f => (a1 f).at (fun a j w1 w2 => hc a j (by omega) (by omega)), fun j hj => by rw [h5 _ (by omega) (by omega)]; exact a2 j hj, fun w => a3 (by rw [h4 _ (by omega) (by omega)] at w; exact w)⟩
  · obtain ⟨t, a1, a2, a3⟩ := r7 i hi
    refine ⟨t, a1.at (fun a j w1 w2 => hc a j (by omega) (by omega)), fun j hj => by rw [h6 _ (by omega) (by omega)]; exact a2 j hj, fun w => a3 (by rw [h4 _ (by omega) (by omega)] at w; exact w)⟩
  · obtain ⟨t, a1, a2, a3⟩ := r8 i hi
    refine ⟨t, a1.at (fun a j w1 w2 => hc a j (by omega) (by omega)), fun j hj => by rw [h7 _ (by omega) (by omega)]; exact a2 j hj, fun w => a3 (by rw [h4 _ (by omega) (by omega)] at w; exact w)⟩
/-- told over, on both sides -/
theorem RB.cp {F : Prop} {d s κ μ : Nat} {h h2 g g2 : yH} (R : RB F s κ h g) (hl : h (s + 4) 1 ≤ 600) (hc : tcR d s h h2) (hr : raR κ μ g g2) : RB F d μ h2 g2 := by
  obtain ⟨r1, r2, r3, r4, r5, r6, r7, r8⟩ := R
  obtain ⟨c1, c2, c3, c4, c5, c6, c7, c8, -, -⟩ := hc
  obtain ⟨q0, q1, q2, q3, q4, q5, q6, q7, -⟩ := hr
  refine ⟨by rw [c1, q1]; exact r1, fun i hi => ?_, fun j hj => ?_, by rw [c7, q2]; exact r4, by rw [c8, q3]; exact r5, fun i hi => ?_, fun i hi => ?_, fun i hi => ?_⟩
  · rw [c1] at hi
    rw [c2 i hi, q0 i (by omega)]
    exact r2 i hi
  · rw [c3 j hj, q4 j hj]
    exact r3 j hj
  · obtain ⟨t, a1, a2, a3⟩ := r6 i hi
    refine ⟨t, fun f => c4 i hi t (a1 f), fun j hj => ?_, fun w => a3 ?_⟩
    · rw [show 100 * μ + 50 * i + j = 100 * μ + (50 * i + j) by omega, q5 _ (by omega), ← a2 j hj, show 100 * κ + 50 * i + j = 100 * κ + (50 * i + j) by omega]
    · rw [show 3 * μ = 3 * μ + 0 by omega, q4 0 (by decide)] at w
      exact w
  · obtain ⟨t, a1, a2, a3⟩ := r7 i hi
    refine ⟨t, c5 i hi t a1, fun j hj => ?_, fun w => a3 ?_⟩
    · rw [show 242 * μ + 121 * i + j = 242 * μ + (121 * i + j) by omega, q6 _ (by omega), ← a2 j hj, show 242 * κ + 121 * i + j = 242 * κ + (121 * i + j) by omega]
    · rw [q4 1 (by decide)] at w
      exact w
  · obtain ⟨t, a1, a2, a3⟩ := r8 i hi
    refine ⟨t, c6 i hi t a1, fun j hj => ?_, fun w => a3 ?_⟩
    · rw [show 104 * μ + 52 * i + j = 104 * μ + (52 * i + j) by omega, q7 _ (by omega), ← a2 j hj, show 104 * κ + 52 * i + j = 104 * κ + (52 * i + j) by omega]
    · rw [q4 2 (by decide)] at w
      exact w
/-- the images' lengths -/
def lnI (h : yH) : Prop := ∀ k, k < 3 → h (1000 * (k + 1) + 4) 1 ≤ 600 ∨ h 2 k = -1
/-- the images stay where the class's cells behind 1000 and the reference's blocks behind the first stay -/
theorem RI.fr {F : Prop} {h h2 g g2 : yH} (R : RI F h g) (hL : lnI h) (hc : ∀ a j, 1000 ≤ a → h2 a j = h a j) (hi : ∀ j, h2 2 j = h 2 j) (h34 : ∀ j, g2 34 j = g 34 j) (h0 : ∀ j, 600 ≤ j → g2 0 j = g 0 j) (h1 : ∀ a j, a = 1 ∨ a = 2 ∨ a = 3 → j ≠ 0 → g2 a j = g a j) (h4 : ∀ j, 3 ≤ j → g2 4 j = g 4 j)
    (h5 : ∀ j, 100 ≤ j → g2 5 j = g 5 j) (h6 : ∀ j, 242 ≤ j → g2 6 j = g 6 j) (h7 : ∀ j, 104 ≤ j → g2 7 j = g 7 j) : RI F h2 g2 := by
  intro k hk
  rw [hi, h34]
  rcases R k hk with w | ⟨w1, w2, w3, w4⟩
  · exact Or.inl w
  · refine Or.inr ⟨w1, w2, w3.fr (fun p hp => hc _ _ (by omega)), w4.fr (fun a j u1 u2 => hc a j (by omega)) (fun j u1 u2 => h0 j (by omega)) ⟨h1 _ _ (by omega) (by omega), h1 _ _ (by omega) (by omega), h1 _ _ (by omega) (by omega)⟩ (fun j u1 u2 => h4 j (by omega)) (fun j u1 u2 => h5 j (by omega)) (fun j u1 u2 => h6 j (by omega)) (fun j u1 u2 => h7 j (by omega)) ?_⟩
    rcases hL k hk with q | q
    · exact q
    · rw [q] at w2
      omega
/-! feed, end -/
theorem RR_feed {F : Prop} {m n : Nat} {x1 x2 x3 x4 x5 : Int} {h g : yH} (hn : 6 ≤ n ∧ 6 ≤ m) (R : RR F h g) (hL : lnI h) (hm : 0 ≤ h 4 1 ∧ h 4 1 ≤ 600) : ∃ v h2 g2, f_X11_feed n [1, x1, x2, x3, x4, x5] h = some (v, h2) ∧ f_X12_feed m [35, x1, x2, x3, x4, x5] g = some (v, g2) ∧ RR F h2 g2 := by
  obtain ⟨hP, gP, R0, RI0⟩ := R
  obtain ⟨N, eN⟩ : ∃ N : Nat, h 4 1 = (N : Int) := ⟨(h 4 1).toNat, by omega⟩
  have gN : g 1 0 = (N : Int) := by rw [← eN]; exact R0.1.symm
  obtain ⟨v, h2, e1, P2, r⟩ := feedC_r (n := n) (x1 := x1) (x2 := x2) (x3 := x3) (x4 := x4) (x5 := x5) hn.1 hP eN (by omega)
  obtain ⟨w, g2, e2, Q2, q⟩ := feedR_r (n := m) (x1 := x1) (x2 := x2) (x3 := x3) (x4 := x4) (x5 := x5) hn.2 gP gN (by omega)
  rcases r with ⟨c1, ev, eh⟩ | ⟨c1, ev, c2, c3⟩
  · rw [ev, eh] at e1
    rcases q with ⟨d1, ew, eg⟩ | ⟨d1, -⟩
    · rw [ew, eg] at e2
      rw [eg] at Q2
      refine ⟨_, _, _, e1, e2, hP, Q2, R0.fr (fun _ _ _ _ => rfl) (fun j _ _ => by rw [zup_ne (by omega)]) ⟨by rw [zup_ne (by omega)], by rw [zup_ne (by omega)], by rw [zup_ne (by omega)]⟩ (fun j _ _ => by rw [zup_ne (by omega)]) (fun j _ _ => by rw [zup_ne (by omega)]) (fun j _ _ => by rw [zup_ne (by omega)]) (fun j _ _ => by rw [zup_ne (by omega)]) hm.2, RI0.fr hL (fun _ _ _ => rfl) (fun _ => rfl) (fun j => by rw [zup_ne (by omega)]) (fun j _ => by rw [zup_ne (by omega)]) (fun a j _ _ => by rw [zup_ne (by omega)]) (fun j _ => by rw [zup_ne (by omega)]) (fun j _ => by rw [zup_ne (by omega)]) (fun j _ => by rw [zup_ne (by omega)]) (fun j _ => by rw [zup_ne (by omega)])⟩
    · omega
  · rw [ev] at e1
    rcases q with ⟨d1, -⟩ | ⟨d1, ew, d2, d3⟩
    · omega
    · rw [ew] at e2
      have hc : ∀ a j, a ≠ 5 → ¬ (a = 4 ∧ j = 1) → h2 a j = h a j := fun a j w1 w2 => by rw [c3 a j w2, if_neg (by omega)]
      have gc : ∀ a j, a ≠ 0 → ¬ (a = 1 ∧ j = 0) → ¬ (a = 35 ∧ j = 0) → g2 a j = g a j := fun a j w1 w2 w3 => by rw [d3 a j w2, if_neg (by omega), zup_ne w3]
      have g0 : ∀ j, g2 0 j = if N ≤ j ∧ j < N + 20 then fBy (fXs x1 x2 x3 x4 x5) (j - N) else g 0 j := fun j => by
        rw [d3 0 j (by omega)]
        by_cases w : N ≤ j ∧ j < N + 20
        · rw [if_pos (by omega), if_pos w]
        · rw [if_neg (by omega), if_neg w, zup_ne (by omega)]
      obtain ⟨r1, r2, r3, r4, r5, r6, r7, r8⟩ := R0
      refine ⟨_, _, _, e1, e2, P2, Q2, ⟨by rw [c2, d2], fun i hi => ?_, fun j hj => ?_, ?_, ?_, fun i hi => ?_, fun i hi => ?_, fun i hi => ?_⟩, RI0.fr hL (fun a j w => hc a j (by omega) (by omega)) (fun j => hc _ _ (by omega) (by omega)) (fun j => gc _ _ (by omega) (by omega) (by omega)) (fun j w => ?_) (fun a j w1 w2 => gc _ _ (by omega) (by omega) (by omega)) (fun j w => gc _ _ (by omega) (by omega) (by omega)) (fun j w => gc _ _ (by omega) (by omega) (by omega)) (fun j w => gc _ _ (by omega) (by omega) (by omega)) (fun j w => gc _ _ (by omega) (by omega) (by omega))⟩
      · rw [c2] at hi
        rw [show 600 * 0 + i = i by omega, g0, c3 _ _ (by omega)]
        by_cases w : N ≤ i ∧ i < N + 20
        · rw [if_pos (by omega), if_pos w]
        · rw [if_neg (by omega), if_neg w]
          have := r2 i (by rw [eN]; omega)
          rw [show 600 * 0 + i = i by omega] at this
          exact this
      · rw [hc _ _ (by omega) (by omega), gc _ _ (by omega) (by omega) (by omega)]
        exact r3 j hj
      · rw [hc _ _ (by omega) (by omega), gc _ _ (by omega) (by omega) (by omega)]
        exact r4
      · rw [hc _ _ (by omega) (by omega), gc _ _ (by omega) (by omega) (by omega)]
        exact r5
      · obtain ⟨t, a1, a2, a3⟩ := r6 i hi
        exact ⟨t, fun f => (a1 f).at (fun a j w1 w2 => hc a j (by omega) (by omega)), fun j hj => by rw [gc _ _ (by omega) (by omega) (by omega)]; exact a2 j hj, fun w => a3 (by rw [gc _ _ (by omega) (by omega) (by omega)] at w; exact w)⟩
      · obtain ⟨t, a1, a2, a3⟩ := r7 i hi
        exact ⟨t, a1.at (fun a j w1 w2 => hc a j (by omega) (by omega)), fun j hj => by rw [gc _ _ (by omega) (by omega) (by omega)]; exact a2 j hj, fun w => a3 (by rw [gc _ _ (by omega) (by omega) (by omega)] at w; exact w)⟩
      · obtain ⟨t, a1, a2, a3⟩ := r8 i hi
        exact ⟨t, a1.at (fun a j w1 w2 => hc a j (by omega) (by omega)), fun j hj => by rw [gc _ _ (by omega) (by omega) (by omega)]; exact a2 j hj, fun w => a3 (by rw [gc _ _ (by omega) (by omega) (by omega)] at w; exact w)⟩
      · rw [g0, if_neg (by omega)]
theorem RR_end {F : Prop} {m n : Nat} {x : Int} {h g : yH} (R : RR F h g) (hL : lnI h) (hm : 0 ≤ h 4 1 ∧ h 4 1 ≤ 600) : ∃ v h2 g2, f_X11_end n [1, x] h = some (v, h2) ∧ f_X12_end m [35, x] g = some (v, g2) ∧ RR F h2 g2 := by
  obtain ⟨hP, gP, R0, RI0⟩ := R
  obtain ⟨v, h2, e1, r⟩ := endC_r (n := n) (x := x) hP hm
  obtain ⟨w, g2, e2, q⟩ := endR_r (n := m) (x := x) gP (by rw [show g 1 0 = h 4 1 from R0.1.symm]; exact hm)
  have e0 : g 1 0 = h 4 1 := R0.1.symm
  rw [e0] at q
  have gP1 : rP (zup g 35 0 0) := gP.fr (fun j hj => by rw [zup_ne (by omega)])
  have RI1 : RI F h (zup g 35 0 0) := RI0.fr hL (fun _ _ _ => rfl) (fun _ => rfl) (fun j => by rw [zup_ne (by omega)]) (fun j _ => by rw [zup_ne (by omega)]) (fun a j _ _ => by rw [zup_ne (by omega)]) (fun j _ => by rw [zup_ne (by omega)]) (fun j _ => by rw [zup_ne (by omega)]) (fun j _ => by rw [zup_ne (by omega)]) (fun j _ => by rw [zup_ne (by omega)])
  have R1 : RB F 0 0 h (zup g 35 0 0) := R0.fr (fun _ _ _ _ => rfl) (fun j _ _ => by rw [zup_ne (by omega)]) ⟨by rw [zup_ne (by omega)], by rw [zup_ne (by omega)], by rw [zup_ne (by omega)]⟩ (fun j _ _ => by rw [zup_ne (by omega)]) (fun j _ _ => by rw [zup_ne (by omega)]) (fun j _ _ => by rw [zup_ne (by omega)]) (fun j _ _ => by rw [zup_ne (by omega)]) hm.2
  generalize zup g 35 0 0 = g1 at q gP1 RI1 R1
  rcases r with ⟨c1, ev, eh⟩ | ⟨c1, ev, eh⟩
  · rw [ev, eh] at e1
    rcases q with ⟨d1, ew, eg⟩ | ⟨d1, -⟩
    · rw [ew, eg] at e2
      exact ⟨_, _, _, e1, e2, hP, gP1, R1, RI1⟩
    · exact absurd d1 c1
  · rw [ev, eh] at e1
    rcases q with ⟨d1, -⟩ | ⟨d1, ew, eg⟩
    · exact absurd c1 d1
    · rw [ew, eg] at e2
      clear eh eg
      have hc : ∀ a j, ¬ (a = 4 ∧ j = 1) → (zup h 4 1 x) a j = h a j := fun a j w => zup_ne w
      have gc : ∀ a j, ¬ (a = 1 ∧ j = 0) → (zup g1 1 0 x) a j = g1 a j := fun a j w => zup_ne w
      have P2 : cP (zup h 4 1 x) := hP.up (by decide)
      have Q2 : rP (zup g1 1 0 x) := gP1.fr (fun j hj => gc _ _ (by omega))
      have l1 : (zup h 4 1 x) 4 1 = x := zup_at _ _ _ _
      have l2 : (zup g1 1 0 x) 1 0 = x := zup_at _ _ _ _
      generalize zup h 4 1 x = h3 at *
      generalize zup g1 1 0 x = g3 at *
      obtain ⟨r1, r2, r3, r4, r5, r6, r7, r8⟩ := R1
      refine ⟨_, _, _, e1, e2, P2, Q2, ⟨by rw [l1, l2], fun i hi => ?_, fun j hj => ?_, ?_, ?_, fun i hi => ?_, fun i hi => ?_, fun i hi => ?_⟩, RI1.fr hL (fun a j w => hc a j (by omega)) (fun j => hc _ _ (by omega)) (fun j => gc _ _ (by omega)) (fun j w => gc _ _ (by omega)) (fun a j w1 w2 => gc _ _ (by omega)) (fun j w => gc _ _ (by omega)) (fun j w => gc _ _ (by omega)) (fun j w => gc _ _ (by omega)) (fun j w => gc _ _ (by omega))⟩
      · rw [l1] at hi
        rw [hc _ _ (by omega), gc _ _ (by omega)]
        exact r2 i (by rw [show h (0 + 4) 1 = h 4 1 from rfl]; omega)
      · rw [hc _ _ (by omega), gc _ _ (by omega)]
        exact r3 j hj
      · rw [hc _ _ (by omega), gc _ _ (by omega)]
        exact r4
      · rw [hc _ _ (by omega), gc _ _ (by omega)]
        exact r5
      · obtain ⟨t, a1, a2, a3⟩ := r6 i hi
        exact ⟨t, fun f => (a1 f).at (fun a j w1 w2 => hc a j (by omega)), fun j hj => by rw [gc _ _ (by omega)]; exact a2 j hj, fun w => a3 (by rw [gc _ _ (by omega)] at w; exact w)⟩
      · obtain ⟨t, a1, a2, a3⟩ := r7 i hi
        exact ⟨t, a1.at (fun a j w1 w2 => hc a j (by omega)), fun j hj => by rw [gc _ _ (by omega)]; exact a2 j hj, fun w => a3 (by rw [gc _ _ (by omega)] at w; exact w)⟩
      · obtain ⟨t, a1, a2, a3⟩ := r8 i hi
        exact ⟨t, a1.at (fun a j w1 w2 => hc a j (by omega)), fun j hj => by rw [gc _ _ (by omega)]; exact a2 j hj, fun w => a3 (by rw [gc _ _ (by omega)] at w; exact w)⟩
end
