/-! what a function leaves: of a stretch, of its pieces -/
def yR (r : yO) (P : Int → yH → Prop) : Prop := ∃ v h2, r = some (v, h2) ∧ P v h2
theorem yR.s {v : Int} {h : yH} {P : Int → yH → Prop} (hp : P v h) : yR (some (v, h)) P := ⟨v, h, rfl, hp⟩
theorem yR.g {c : Prop} [Decidable c] {k : yO} {P : Int → yH → Prop} (hc : c) (hk : yR k P) : yR (xg c k) P := by
  rw [xg_pos hc]; exact hk
theorem yR.h {h : yH} {k : yH → yO} {P : Int → yH → Prop} (hk : yR (k h) P) : yR (xh h k) P := hk
theorem yR.b {r : yO} {k : Int → yH → yO} {P Q : Int → yH → Prop} (hr : yR r Q) (hk : ∀ v h1, Q v h1 → yR (k v h1) P) : yR (xb r k) P := by
  obtain ⟨v, h1, rfl, hq⟩ := hr
  exact hk v h1 hq
theorem yR.e {r r' : yO} {P : Int → yH → Prop} (e : r = r') (hk : yR r' P) : yR r P := by rw [e]; exact hk
theorem yR.t {c : Prop} [Decidable c] {a b : yO} {P : Int → yH → Prop} (hc : c) (hk : yR a P) : yR (if c then a else b) P := by
  rw [if_pos hc]; exact hk
theorem yR.f {c : Prop} [Decidable c] {a b : yO} {P : Int → yH → Prop} (hc : ¬ c) (hk : yR b P) : yR (if c then a else b) P := by
  rw [if_neg hc]; exact hk
theorem yR.c {c : Prop} [Decidable c] {a b : yO} {P : Int → yH → Prop} (h1 : c → yR a P) (h2 : ¬ c → yR b P) : yR (if c then a else b) P := by
  by_cases hc : c
  · rw [if_pos hc]; exact h1 hc
  · rw [if_neg hc]; exact h2 hc
theorem yR.m {r : yO} {P Q : Int → yH → Prop} (hr : yR r P) (hm : ∀ v h, P v h → Q v h) : yR r Q := by
  obtain ⟨v, h, e, hp⟩ := hr
  exact ⟨v, h, e, hm v h hp⟩
/-! the class: pointers of what is told, at a base -/
def cPLb : List (Nat × Nat × Nat) := [(3, 0, 4), (3, 1, 6), (3, 2, 7), (3, 3, 8), (3, 4, 9), (4, 0, 5), (7, 0, 20), (7, 1, 30), (8, 0, 40), (8, 1, 50), (9, 0, 60), (9, 1, 70),
  (20, 5, 21), (20, 7, 22), (20, 8, 23), (20, 9, 24), (20, 11, 25), (20, 12, 26), (20, 13, 27), (30, 5, 31), (30, 7, 32), (30, 8, 33), (30, 9, 34), (30, 11, 35), (30, 12, 36), (30, 13, 37),
  (40, 1, 41), (40, 2, 42), (50, 1, 51), (50, 2, 52), (60, 1, 61), (60, 2, 62), (60, 4, 63), (60, 5, 64), (70, 1, 71), (70, 2, 72), (70, 4, 73), (70, 5, 74)]
def cPb (B : Nat) (h : yH) : Prop := ∀ p ∈ cPLb, h (B + p.1) p.2.1 = ((B + p.2.2 : Nat) : Int)
theorem cPb.p {B : Nat} {h : yH} (hc : cPb B h) {a j v : Nat} (hm : (a, j, v) ∈ cPLb) : h (B + a) j = ((B + v : Nat) : Int) := hc _ hm
theorem cPb.fr {B : Nat} {h h2 : yH} (hc : cPb B h) (hf : ∀ p ∈ cPLb, h2 (B + p.1) p.2.1 = h (B + p.1) p.2.1) : cPb B h2 := fun p hp => (hf p hp).trans (hc p hp)
theorem cPLb_b : ∀ p ∈ cPLb, 3 ≤ p.1 ∧ p.1 ≤ 79 := by decide +kernel
theorem cP.b {h : yH} (hc : cP h) : cPb 0 h := by
  intro p hp
  have : ∀ p ∈ cPLb, (p.1, p.2.1, (p.2.2 : Int)) ∈ cPL := by decide +kernel
  have := hc _ (this p hp)
  rw [Nat.zero_add, Nat.zero_add]
  exact this
/-- the source's numbers within their bounds -/
def cBb (B : Nat) (h : yH) : Prop := (0 ≤ h (B + 4) 1 ∧ h (B + 4) 1 ≤ 600) ∧
  (∀ i, i < 2 → (0 ≤ h (B + 20 + 10 * i) 0 ∧ h (B + 20 + 10 * i) 0 ≤ 8) ∧ (0 ≤ h (B + 20 + 10 * i) 1 ∧ h (B + 20 + 10 * i) 1 ≤ 8) ∧ (0 ≤ h (B + 20 + 10 * i) 2 ∧ h (B + 20 + 10 * i) 2 ≤ 3) ∧ (0 ≤ h (B + 20 + 10 * i) 6 ∧ h (B + 20 + 10 * i) 6 ≤ 4) ∧ (0 ≤ h (B + 20 + 10 * i) 10 ∧ h (B + 20 + 10 * i) 10 ≤ 6)) ∧
  (∀ i, i < 2 → 0 ≤ h (B + 40 + 10 * i) 0 ∧ h (B + 40 + 10 * i) 0 ≤ 30) ∧
  (∀ i, i < 2 → (0 ≤ h (B + 60 + 10 * i) 0 ∧ h (B + 60 + 10 * i) 0 ≤ 9) ∧ (0 ≤ h (B + 60 + 10 * i) 3 ∧ h (B + 60 + 10 * i) 3 ≤ 16))
theorem cBb.fr {B : Nat} {h h2 : yH} (hc : cBb B h) (hf : ∀ a j, B + 4 ≤ a → a ≤ B + 79 → h2 a j = h a j) : cBb B h2 := by
  obtain ⟨c1, c2, c3, c4⟩ := hc
  refine ⟨by rw [hf _ _ (by omega) (by omega)]; exact c1, fun i hi => ?_, fun i hi => ?_, fun i hi => ?_⟩
  · rw [hf _ 0 (by omega) (by omega), hf _ 1 (by omega) (by omega), hf _ 2 (by omega) (by omega), hf _ 6 (by omega) (by omega), hf _ 10 (by omega) (by omega)]
    exact c2 i hi
  · rw [hf _ 0 (by omega) (by omega)]
    exact c3 i hi
  · rw [hf _ 0 (by omega) (by omega), hf _ 3 (by omega) (by omega)]
    exact c4 i hi
theorem cPb.off {d s : Nat} {g g2 : yH} (hd : d + 100 ≤ s ∨ s + 100 ≤ d) {lo hi : Nat} (h1 : 3 ≤ lo) (h2 : hi ≤ 79) (Ps : cPb s g) (F : ∀ a j, ¬ (d + lo ≤ a ∧ a ≤ d + hi) → g2 a j = g a j) : cPb s g2 := Ps.fr (fun p hp => F _ _ (by have := cPLb_b p hp; omega))
theorem stepS {d s i n : Nat} {g : yH} (hd : d + 100 ≤ s ∨ s + 100 ≤ d) (hi : i < 2) (Pd : cPb d g) (Ps : cPb s g) (hb : cBb s g) : yR (f_X6_copyFrom n [((d + 20 + 10 * i : Nat) : Int), ((s + 20 + 10 * i : Nat) : Int)] g) (fun _ g2 => (∀ t : Nat → Int, cS (s + 20 + 10 * i) t g → cS (d + 20 + 10 * i) t g2) ∧ (∀ a j, ¬ (d + (20 + 10 * i) ≤ a ∧ a ≤ d + (20 + 7 + 10 * i)) → g2 a j = g a j) ∧ cPb d g2 ∧ cPb s g2 ∧ cBb s g2) := by
  have key : ∃ g2, f_X6_copyFrom n [((d + 20 + 10 * i : Nat) : Int), ((s + 20 + 10 * i : Nat) : Int)] g = some (0, g2) ∧ (∀ t : Nat → Int, cS (s + 20 + 10 * i) t g → cS (d + 20 + 10 * i) t g2) ∧ ∀ a j, ¬ (d + 20 + 10 * i ≤ a ∧ a ≤ d + 20 + 10 * i + 7) ∨ (a = d + 20 + 10 * i ∧ (j = 5 ∨ j = 7 ∨ j = 8 ∨ j = 9 ∨ j = 11 ∨ j = 12 ∨ j = 13)) → g2 a j = g a j := by
    rcases (show i = 0 ∨ i = 1 by omega) with rfl | rfl
    · exact copy6g (by omega) ⟨(Pd.p (a := 20) (j := 5) (v := 20 + 1) (by decide)).trans (by omega), (Pd.p (a := 20) (j := 7) (v := 20 + 2) (by decide)).trans (by omega), (Pd.p (a := 20) (j := 8) (v := 20 + 3) (by decide)).trans (by omega), (Pd.p (a := 20) (j := 9) (v := 20 + 4) (by decide)).trans (by omega), (Pd.p (a := 20) (j := 11) (v := 20 + 5) (by decide)).trans (by omega), (Pd.p (a := 20) (j := 12) (v := 20 + 6) (by decide)).trans (by omega), (Pd.p (a := 20) (j := 13) (v := 20 + 7) (by decide)).trans (by omega)⟩ ⟨(Ps.p (a := 20) (j := 5) (v := 20 + 1) (by decide)).trans (by omega), (Ps.p (a := 20) (j := 7) (v := 20 + 2) (by decide)).trans (by omega), (Ps.p (a := 20) (j := 8) (v := 20 + 3) (by decide)).trans (by omega), (Ps.p (a := 20) (j := 9) (v := 20 + 4) (by decide)).trans (by omega), (Ps.p (a := 20) (j := 11) (v := 20 + 5) (by decide)).trans (by omega), (Ps.p (a := 20) (j := 12) (v := 20 + 6) (by decide)).trans (by omega), (Ps.p (a := 20) (j := 13) (v := 20 + 7) (by decide)).trans (by omega)⟩ (hb.2.1 0 hi)
    · exact copy6g (by omega) ⟨(Pd.p (a := 30) (j := 5) (v := 30 + 1) (by decide)).trans (by omega), (Pd.p (a := 30) (j := 7) (v := 30 + 2) (by decide)).trans (by omega), (Pd.p (a := 30) (j := 8) (v := 30 + 3) (by decide)).trans (by omega), (Pd.p (a := 30) (j := 9) (v := 30 + 4) (by decide)).trans (by omega), (Pd.p (a := 30) (j := 11) (v := 30 + 5) (by decide)).trans (by omega), (Pd.p (a := 30) (j := 12) (v := 30 + 6) (by decide)).trans (by omega), (Pd.p (a := 30) (j := 13) (v := 30 + 7) (by decide)).trans (by omega)⟩ ⟨(Ps.p (a := 30) (j := 5) (v := 30 + 1) (by decide)).trans (by omega), (Ps.p (a := 30) (j := 7) (v := 30 + 2) (by decide)).trans (by omega), (Ps.p (a := 30) (j := 8) (v := 30 + 3) (by decide)).trans (by omega), (Ps.p (a := 30) (j := 9) (v := 30 + 4) (by decide)).trans (by omega), (Ps.p (a := 30) (j := 11) (v := 30 + 5) (by decide)).trans (by omega), (Ps.p (a := 30) (j := 12) (v := 30 + 6) (by decide)).trans (by omega), (Ps.p (a := 30) (j := 13) (v := 30 + 7) (by decide)).trans (by omega)⟩ (hb.2.1 1 hi)
  obtain ⟨g2, e1, e2, e3⟩ := key
  have F : ∀ a j, ¬ (d + (20 + 10 * i) ≤ a ∧ a ≤ d + (20 + 7 + 10 * i)) → g2 a j = g a j := fun a j w => e3 a j (Or.inl (by omega))
  refine ⟨0, g2, e1, e2, F, Pd.fr (fun p hp => ?_), cPb.off hd (by omega) (by omega) Ps F, hb.fr (fun a j w1 w2 => F a j (by omega))⟩
  have key : ∀ p ∈ cPLb, ∀ i : Fin 2, ¬ (20 + 10 * i.val ≤ p.1 ∧ p.1 ≤ 20 + 10 * i.val + 7) ∨ (p.1 = 20 + 10 * i.val ∧ (p.2.1 = 5 ∨ p.2.1 = 7 ∨ p.2.1 = 8 ∨ p.2.1 = 9 ∨ p.2.1 = 11 ∨ p.2.1 = 12 ∨ p.2.1 = 13)) := by decide +kernel
  rcases key p hp ⟨i, hi⟩ with w | w
  · exact e3 _ _ (Or.inl (by simp only at w; omega))
  · exact e3 _ _ (Or.inr ⟨by have := w.1; simp only at this; omega, w.2⟩)
theorem stepD {d s i n : Nat} {g : yH} (hd : d + 100 ≤ s ∨ s + 100 ≤ d) (hi : i < 2) (Pd : cPb d g) (Ps : cPb s g) (hb : cBb s g) : yR (f_X1_copyFrom n [((d + 40 + 10 * i : Nat) : Int), ((s + 40 + 10 * i : Nat) : Int)] g) (fun _ g2 => (∀ t : Nat → Int, cD (s + 40 + 10 * i) t g → cD (d + 40 + 10 * i) t g2) ∧ (∀ a j, ¬ (d + (40 + 10 * i) ≤ a ∧ a ≤ d + (40 + 7 + 10 * i)) → g2 a j = g a j) ∧ cPb d g2 ∧ cPb s g2 ∧ cBb s g2) := by
  have key : ∃ g2, f_X1_copyFrom n [((d + 40 + 10 * i : Nat) : Int), ((s + 40 + 10 * i : Nat) : Int)] g = some (0, g2) ∧ (∀ t : Nat → Int, cD (s + 40 + 10 * i) t g → cD (d + 40 + 10 * i) t g2) ∧ ∀ a j, ¬ (d + 40 + 10 * i ≤ a ∧ a ≤ d + 40 + 10 * i + 7) ∨ (a = d + 40 + 10 * i ∧ (j = 1 ∨ j = 2)) → g2 a j = g a j := by
    rcases (show i = 0 ∨ i = 1 by omega) with rfl | rfl
    · exact copy1g (by omega) ⟨(Pd.p (a := 40) (j := 1) (v := 40 + 1) (by decide)).trans (by omega), (Pd.p (a := 40) (j := 2) (v := 40 + 2) (by decide)).trans (by omega)⟩ ⟨(Ps.p (a := 40) (j := 1) (v := 40 + 1) (by decide)).trans (by omega), (Ps.p (a := 40) (j := 2) (v := 40 + 2) (by decide)).trans (by omega)⟩ (hb.2.2.1 0 hi)
    · exact copy1g (by omega) ⟨(Pd.p (a := 50) (j := 1) (v := 50 + 1) (by decide)).trans (by omega), (Pd.p (a := 50) (j := 2) (v := 50 + 2) (by decide)).trans (by omega)⟩ ⟨(Ps.p (a := 50) (j := 1) (v := 50 + 1) (by decide)).trans (by omega), (Ps.p (a := 50) (j := 2) (v := 50 + 2) (by decide)).trans (by omega)⟩ (hb.2.2.1 1 hi)
  obtain ⟨g2, e1, e2, e3⟩ := key
  have F : ∀ a j, ¬ (d + (40 + 10 * i) ≤ a ∧ a ≤ d + (40 + 7 + 10 * i)) → g2 a j = g a j := fun a j w => e3 a j (Or.inl (by omega))
  refine ⟨0, g2, e1, e2, F, Pd.fr (fun p hp => ?_), cPb.off hd (by omega) (by omega) Ps F, hb.fr (fun a j w1 w2 => F a j (by omega))⟩
  have key : ∀ p ∈ cPLb, ∀ i : Fin 2, ¬ (40 + 10 * i.val ≤ p.1 ∧ p.1 ≤ 40 + 10 * i.val + 7) ∨ (p.1 = 40 + 10 * i.val ∧ (p.2.1 = 1 ∨ p.2.1 = 2)) := by decide +kernel
  rcases key p hp ⟨i, hi⟩ with w | w
  · exact e3 _ _ (Or.inl (by simp only at w; omega))
  · exact e3 _ _ (Or.inr ⟨by have := w.1; simp only at this; omega, w.2⟩)
theorem stepQ {d s i n : Nat} {g : yH} (hd : d + 100 ≤ s ∨ s + 100 ≤ d) (hi : i < 2) (Pd : cPb d g) (Ps : cPb s g) (hb : cBb s g) : yR (f_X2_copyFrom n [((d + 60 + 10 * i : Nat) : Int), ((s + 60 + 10 * i : Nat) : Int)] g) (fun _ g2 => (∀ t : Nat → Int, cQ (s + 60 + 10 * i) t g → cQ (d + 60 + 10 * i) t g2) ∧ (∀ a j, ¬ (d + (60 + 10 * i) ≤ a ∧ a ≤ d + (60 + 7 + 10 * i)) → g2 a j = g a j) ∧ cPb d g2 ∧ cPb s g2 ∧ cBb s g2) := by
  have key : ∃ g2, f_X2_copyFrom n [((d + 60 + 10 * i : Nat) : Int), ((s + 60 + 10 * i : Nat) : Int)] g = some (0, g2) ∧ (∀ t : Nat → Int, cQ (s + 60 + 10 * i) t g → cQ (d + 60 + 10 * i) t g2) ∧ ∀ a j, ¬ (d + 60 + 10 * i ≤ a ∧ a ≤ d + 60 + 10 * i + 7) ∨ (a = d + 60 + 10 * i ∧ (j = 1 ∨ j = 2 ∨ j = 4 ∨ j = 5)) → g2 a j = g a j := by
    rcases (show i = 0 ∨ i = 1 by omega) with rfl | rfl
    · exact copy2g (by omega) ⟨(Pd.p (a := 60) (j := 1) (v := 60 + 1) (by decide)).trans (by omega), (Pd.p (a := 60) (j := 2) (v := 60 + 2) (by decide)).trans (by omega), (Pd.p (a := 60) (j := 4) (v := 60 + 3) (by decide)).trans (by omega), (Pd.p (a := 60) (j := 5) (v := 60 + 4) (by decide)).trans (by omega)⟩ ⟨(Ps.p (a := 60) (j := 1) (v := 60 + 1) (by decide)).trans (by omega), (Ps.p (a := 60) (j := 2) (v := 60 + 2) (by decide)).trans (by omega), (Ps.p (a := 60) (j := 4) (v := 60 + 3) (by decide)).trans (by omega), (Ps.p (a := 60) (j := 5) (v := 60 + 4) (by decide)).trans (by omega)⟩ (hb.2.2.2 0 hi)
    · exact copy2g (by omega) ⟨(Pd.p (a := 70) (j := 1) (v := 70 + 1) (by decide)).trans (by omega), (Pd.p (a := 70) (j := 2) (v := 70 + 2) (by decide)).trans (by omega), (Pd.p (a := 70) (j := 4) (v := 70 + 3) (by decide)).trans (by omega), (Pd.p (a := 70) (j := 5) (v := 70 + 4) (by decide)).trans (by omega)⟩ ⟨(Ps.p (a := 70) (j := 1) (v := 70 + 1) (by decide)).trans (by omega), (Ps.p (a := 70) (j := 2) (v := 70 + 2) (by decide)).trans (by omega), (Ps.p (a := 70) (j := 4) (v := 70 + 3) (by decide)).trans (by omega), (Ps.p (a := 70) (j := 5) (v := 70 + 4) (by decide)).trans (by omega)⟩ (hb.2.2.2 1 hi)
  obtain ⟨g2, e1, e2, e3⟩ := key
  have F : ∀ a j, ¬ (d + (60 + 10 * i) ≤ a ∧ a ≤ d + (60 + 7 + 10 * i)) → g2 a j = g a j := fun a j w => e3 a j (Or.inl (by omega))
  refine ⟨0, g2, e1, e2, F, Pd.fr (fun p hp => ?_), cPb.off hd (by omega) (by omega) Ps F, hb.fr (fun a j w1 w2 => F a j (by omega))⟩
  have key : ∀ p ∈ cPLb, ∀ i : Fin 2, ¬ (60 + 10 * i.val ≤ p.1 ∧ p.1 ≤ 60 + 10 * i.val + 7) ∨ (p.1 = 60 + 10 * i.val ∧ (p.2.1 = 1 ∨ p.2.1 = 2 ∨ p.2.1 = 4 ∨ p.2.1 = 5)) := by decide +kernel
  rcases key p hp ⟨i, hi⟩ with w | w
  · exact e3 _ _ (Or.inl (by simp only at w; omega))
  · exact e3 _ _ (Or.inr ⟨by have := w.1; simp only at this; omega, w.2⟩)
/-- what is told at d is as it was at s -/
def tcR (d s : Nat) (h h2 : yH) : Prop := h2 (d + 4) 1 = h (s + 4) 1 ∧ (∀ i : Nat, (i : Int) < h (s + 4) 1 → h2 (d + 5) i = h (s + 5) i) ∧ (∀ j, j < 3 → h2 (d + 6) j = h (s + 6) j) ∧
  (∀ i, i < 2 → ∀ t : Nat → Int, cS (s + 20 + 10 * i) t h → cS (d + 20 + 10 * i) t h2) ∧ (∀ i, i < 2 → ∀ t : Nat → Int, cD (s + 40 + 10 * i) t h → cD (d + 40 + 10 * i) t h2) ∧ (∀ i, i < 2 → ∀ t : Nat → Int, cQ (s + 60 + 10 * i) t h → cQ (d + 60 + 10 * i) t h2) ∧
  h2 (d + 3) 5 = h (s + 3) 5 ∧ h2 (d + 3) 6 = h (s + 3) 6 ∧ cPb d h2 ∧ ∀ a j, ¬ (d + 3 ≤ a ∧ a ≤ d + 79) → h2 a j = h a j
theorem cS.at {b : Nat} {t : Nat → Int} {h h2 : yH} (hf : ∀ a j, b ≤ a → a ≤ b + 7 → h2 a j = h a j) (hs : cS b t h) : cS b t h2 := hs.fr hf
theorem cD.at {b : Nat} {t : Nat → Int} {h h2 : yH} (hf : ∀ a j, b ≤ a → a ≤ b + 7 → h2 a j = h a j) (hs : cD b t h) : cD b t h2 := by
  obtain ⟨h0, h1⟩ := hs
  refine ⟨by rw [hf _ _ (by omega) (by omega)]; exact h0, fun k hk => ?_⟩
  rw [hf _ _ (by omega) (by omega), hf (b + 2) (3 * k) (by omega) (by omega), hf (b + 2) (3 * k + 1) (by omega) (by omega), hf (b + 2) (3 * k + 2) (by omega) (by omega)]
  exact h1 k hk
theorem cQ.at {b : Nat} {t : Nat → Int} {h h2 : yH} (hf : ∀ a j, b ≤ a → a ≤ b + 7 → h2 a j = h a j) (hs : cQ b t h) : cQ b t h2 := by
  obtain ⟨h0, h3, h1, h2'⟩ := hs
  refine ⟨by rw [hf _ _ (by omega) (by omega)]; exact h0, by rw [hf _ _ (by omega) (by omega)]; exact h3, fun k hk => ?_, fun k hk => ?_⟩
  · rw [hf _ _ (by omega) (by omega), hf (b + 2) _ (by omega) (by omega)]
    exact h1 k hk
  · rw [hf _ _ (by omega) (by omega), hf (b + 4) _ (by omega) (by omega)]
    exact h2' k hk
theorem tap_i0 {n : Nat} {h : yH} (Pd : cPb 1000 h) (Ps : cPb 0 h) (hb : 0 ≤ h 4 1 ∧ h 4 1 ≤ 600) : yR (f_X8_copyFrom_i0 n [1004, 4] h) (fun _ h1 => h1 1004 1 = h 4 1 ∧ (∀ i : Nat, (i : Int) < h 4 1 → h1 1005 i = h 5 i) ∧ ∀ a j, ¬ a = 1005 → ¬ (a = 1004 ∧ j = 1) → h1 a j = h a j) := by
  refine yR.e e_X8_copyFrom_i0 ?_
  refine yR.g (Ps.p (a := 4) (j := 0) (v := 5) (by decide)) ?_
  refine yR.g (Pd.p (a := 4) (j := 0) (v := 5) (by decide)) ?_
  refine yR.g (by omega) ?_
  refine yR.h ?_
  have e1 : zcy h 1005 5 0 0 (h 4 1).toNat 4 1 = h 4 1 := by rw [zcy_app, if_neg (by omega)]
  refine yR.g (by rw [e1]; exact hb) ?_
  refine yR.s ⟨by rw [zup_at, e1], fun i hi => by rw [zup_ne (by omega), zcy_app, if_pos (by omega), show 0 + (i - 0) = i by omega], fun a j w1 w2 => by rw [zup_ne w2, zcy_app, if_neg (by omega)]⟩
set_option maxRecDepth 10000 in
theorem tcp_i0 {n : Nat} {h : yH} (hn : 3 ≤ n) (Pd : cPb 1000 h) (Ps : cPb 0 h) (hb : cBb 0 h) : yR (f_X9_copyFrom_i0 n [1003, 3] h) (fun _ h2 => tcR 1000 0 h h2) := by
  have hds : 1000 + 100 ≤ 0 ∨ 0 + 100 ≤ 1000 := by decide
  refine yR.e e_X9_copyFrom_i0 ?_
  refine yR.g (Pd.p (a := 3) (j := 0) (v := 4) (by decide)) ?_
  refine yR.g (Ps.p (a := 3) (j := 0) (v := 4) (by decide)) ?_
  refine yR.b (tap_i0 (n := n) Pd Ps hb.1) (fun _ h1 ⟨t1, t2, t3⟩ => ?_)
  have Pd1 : cPb 1000 h1 := Pd.fr (fun p hp => t3 _ _ (by
    have : ∀ p ∈ cPLb, p.1 ≠ 5 := by decide +kernel
    have := this p hp
    omega) (by
    have : ∀ p ∈ cPLb, ¬ (p.1 = 4 ∧ p.2.1 = 1) := by decide +kernel
    have := this p hp
    omega))
  have Fs1 : ∀ a j, 3 ≤ a → a ≤ 0 + 79 → h1 a j = h a j := fun a j w1 w2 => t3 a j (by omega) (by omega)
  have Ps1 : cPb 0 h1 := Ps.fr (fun p hp => Fs1 _ _ (by have := cPLb_b p hp; omega) (by have := cPLb_b p hp; omega))
  refine yR.g (Ps1.p (a := 3) (j := 1) (v := 6) (by decide)) ?_
  refine yR.g (Pd1.p (a := 3) (j := 1) (v := 6) (by decide)) ?_
  refine yR.h ?_
  have z5 : ∀ a j, zcy h1 1006 6 0 0 3 a j = if a = 1006 ∧ j < 3 then h1 6 j else h1 a j := fun a j => by
    rw [zcy_app]
    by_cases w : a = 1006 ∧ j < 3
    · rw [if_pos (by omega), if_pos w, show 0 + (j - 0) = j by omega]
    · rw [if_neg (by omega), if_neg w]
  generalize zcy h1 1006 6 0 0 3 = g0 at z5 ⊢
  have Pd0 : cPb 1000 g0 := Pd1.fr (fun p hp => by rw [z5, if_neg (by
    have : ∀ p ∈ cPLb, p.1 ≠ 6 := by decide +kernel
    have := this p hp
    omega)])
  have F0 : ∀ a j, ¬ (1003 ≤ a ∧ a ≤ 1000 + 19) → g0 a j = h a j := fun a j w => by
    rw [z5, if_neg (by omega)]
    exact t3 a j (by omega) (by omega)
  have Ps0 : cPb 0 g0 := Ps.fr (fun p hp => F0 _ _ (by have := cPLb_b p hp; omega))
  have B0 : cBb 0 g0 := hb.fr (fun a j w1 w2 => F0 a j (by omega))
  obtain ⟨n, rfl⟩ : ∃ n', n = n' + 3 := ⟨n - 3, by omega⟩
  refine yR.e e_X9_copyFrom_i0_27 ?_
  refine yR.t (by decide) ?_
  refine yR.g (Pd0.p (a := 3) (j := 2) (v := 7) (by decide)) ?_
  refine yR.g (by decide) ?_
  refine yR.g (Pd0.p (a := 7) (j := 0) (v := 20) (by decide)) ?_
  refine yR.g (Ps0.p (a := 3) (j := 2) (v := 7) (by decide)) ?_
  refine yR.g (by decide) ?_
  refine yR.g (Ps0.p (a := 7) (j := 0) (v := 20) (by decide)) ?_
  refine yR.b (stepS (d := 1000) (s := 0) (i := 0) hds (by decide) Pd0 Ps0 B0) (fun _ g1 ⟨r1, F1, Pd1, Ps1, B1⟩ => ?_)
  refine yR.g (Pd1.p (a := 3) (j := 3) (v := 8) (by decide)) ?_
  refine yR.g (by decide) ?_
  refine yR.g (Pd1.p (a := 8) (j := 0) (v := 40) (by decide)) ?_
  refine yR.g (Ps1.p (a := 3) (j := 3) (v := 8) (by decide)) ?_
  refine yR.g (by decide) ?_
  refine yR.g (Ps1.p (a := 8) (j := 0) (v := 40) (by decide)) ?_
  refine yR.b (stepD (d := 1000) (s := 0) (i := 0) hds (by decide) Pd1 Ps1 B1) (fun _ g2 ⟨r2, F2, Pd2, Ps2, B2⟩ => ?_)
  refine yR.g (Pd2.p (a := 3) (j := 4) (v := 9) (by decide)) ?_
  refine yR.g (by decide) ?_
  refine yR.g (Pd2.p (a := 9) (j := 0) (v := 60) (by decide)) ?_
  refine yR.g (Ps2.p (a := 3) (j := 4) (v := 9) (by decide)) ?_
  refine yR.g (by decide) ?_
  refine yR.g (Ps2.p (a := 9) (j := 0) (v := 60) (by decide)) ?_
  refine yR.b (stepQ (d := 1000) (s := 0) (i := 0) hds (by decide) Pd2 Ps2 B2) (fun _ g3 ⟨r3, F3, Pd3, Ps3, B3⟩ => ?_)
  refine yR.g (by decide) ?_
  refine yR.e e_X9_copyFrom_i0_27 ?_
  refine yR.t (by decide) ?_
  refine yR.g (Pd3.p (a := 3) (j := 2) (v := 7) (by decide)) ?_
  refine yR.g (by decide) ?_
  refine yR.g (Pd3.p (a := 7) (j := 1) (v := 30) (by decide)) ?_
  refine yR.g (Ps3.p (a := 3) (j := 2) (v := 7) (by decide)) ?_
  refine yR.g (by decide) ?_
  refine yR.g (Ps3.p (a := 7) (j := 1) (v := 30) (by decide)) ?_
  refine yR.b (stepS (d := 1000) (s := 0) (i := 1) hds (by decide) Pd3 Ps3 B3) (fun _ g4 ⟨r4, F4, Pd4, Ps4, B4⟩ => ?_)
  refine yR.g (Pd4.p (a := 3) (j := 3) (v := 8) (by decide)) ?_
  refine yR.g (by decide) ?_
  refine yR.g (Pd4.p (a := 8) (j := 1) (v := 50) (by decide)) ?_
  refine yR.g (Ps4.p (a := 3) (j := 3) (v := 8) (by decide)) ?_
  refine yR.g (by decide) ?_
  refine yR.g (Ps4.p (a := 8) (j := 1) (v := 50) (by decide)) ?_
  refine yR.b (stepD (d := 1000) (s := 0) (i := 1) hds (by decide) Pd4 Ps4 B4) (fun _ g5 ⟨r5, F5, Pd5, Ps5, B5⟩ => ?_)
  refine yR.g (Pd5.p (a := 3) (j := 4) (v := 9) (by decide)) ?_
  refine yR.g (by decide) ?_
  refine yR.g (Pd5.p (a := 9) (j := 1) (v := 70) (by decide)) ?_
  refine yR.g (Ps5.p (a := 3) (j := 4) (v := 9) (by decide)) ?_
  refine yR.g (by decide) ?_
  refine yR.g (Ps5.p (a := 9) (j := 1) (v := 70) (by decide)) ?_
  refine yR.b (stepQ (d := 1000) (s := 0) (i := 1) hds (by decide) Pd5 Ps5 B5) (fun _ g6 ⟨r6, F6, Pd6, Ps6, B6⟩ => ?_)
  refine yR.g (by decide) ?_
  refine yR.e e_X9_copyFrom_i0_27 ?_
  refine yR.f (by decide) ?_
  refine yR.s ?_
  have G : ∀ a j, ¬ (1000 + 20 ≤ a ∧ a ≤ 1000 + 79) → g6 a j = g0 a j := fun a j w => by
    rw [F6 a j (by omega), F5 a j (by omega), F4 a j (by omega), F3 a j (by omega), F2 a j (by omega), F1 a j (by omega)]
  have U : ∀ a j, ¬ (a = 1003) → zup (zup g6 1003 5 (g6 3 5)) 1003 6 (g6 3 6) a j = g6 a j := fun a j w => by rw [zup_ne (by omega), zup_ne (by omega)]
  have src : ∀ a j, 3 ≤ a → a ≤ 0 + 79 → g6 a j = h a j := fun a j w1 w2 => (G a j (by omega)).trans (F0 a j (by omega))
  refine ⟨by rw [U _ _ (by omega), G _ _ (by omega), z5, if_neg (by omega)]; exact t1, fun i hi => by rw [U _ _ (by omega), G _ _ (by omega), z5, if_neg (by omega)]; exact t2 i hi, fun j hj => by rw [U _ _ (by omega), G _ _ (by omega), z5, if_pos (by omega)]; exact Fs1 _ _ (by decide) (by decide), fun i hi t ht => ?_, fun i hi t ht => ?_, fun i hi t ht => ?_, ?_, ?_, ?_, fun a j w => ?_⟩
  · rcases (show i = 0 ∨ i = 1 by omega) with rfl | rfl
    · exact cS.at (b := 1000 + 20 + 10 * 0) (fun a j w1 w2 => by rw [U a j (by omega), F6 a j (by omega), F5 a j (by omega), F4 a j (by omega), F3 a j (by omega), F2 a j (by omega)]) (r1 t (cS.at (fun a j w1 w2 => by rw [F0 a j (by omega)]) ht))
    · exact cS.at (b := 1000 + 20 + 10 * 1) (fun a j w1 w2 => by rw [U a j (by omega), F6 a j (by omega), F5 a j (by omega)]) (r4 t (cS.at (fun a j w1 w2 => by rw [F3 a j (by omega), F2 a j (by omega), F1 a j (by omega), F0 a j (by omega)]) ht))
  · rcases (show i = 0 ∨ i = 1 by omega) with rfl | rfl
    · exact cD.at (b := 1000 + 40 + 10 * 0) (fun a j w1 w2 => by rw [U a j (by omega), F6 a j (by omega), F5 a j (by omega), F4 a j (by omega), F3 a j (by omega)]) (r2 t (cD.at (fun a j w1 w2 => by rw [F1 a j (by omega), F0 a j (by omega)]) ht))
    · exact cD.at (b := 1000 + 40 + 10 * 1) (fun a j w1 w2 => by rw [U a j (by omega), F6 a j (by omega)]) (r5 t (cD.at (fun a j w1 w2 => by rw [F4 a j (by omega), F3 a j (by omega), F2 a j (by omega), F1 a j (by omega), F0 a j (by omega)]) ht))
  · rcases (show i = 0 ∨ i = 1 by omega) with rfl | rfl
    · exact cQ.at (b := 1000 + 60 + 10 * 0) (fun a j w1 w2 => by rw [U a j (by omega), F6 a j (by omega), F5 a j (by omega), F4 a j (by omega)]) (r3 t (cQ.at (fun a j w1 w2 => by rw [F2 a j (by omega), F1 a j (by omega), F0 a j (by omega)]) ht))
    · exact cQ.at (b := 1000 + 60 + 10 * 1) (fun a j w1 w2 => by rw [U a j (by omega)]) (r6 t (cQ.at (fun a j w1 w2 => by rw [F5 a j (by omega), F4 a j (by omega), F3 a j (by omega), F2 a j (by omega), F1 a j (by omega), F0 a j (by omega)]) ht))
  · rw [zup_ne (by omega), zup_at]
    exact src _ _ (by decide) (by decide)
  · rw [zup_at]
    exact src _ _ (by decide) (by decide)
  · refine Pd6.fr (fun p hp => ?_)
    have : ∀ p ∈ cPLb, ¬ (p.1 = 3 ∧ (p.2.1 = 5 ∨ p.2.1 = 6)) := by decide +kernel
    have := this p hp
    rw [zup_ne (by omega), zup_ne (by omega)]
  · rw [U a j (by omega), G a j (by omega)]
    exact F0 a j (by omega)
theorem tap_a0 {n : Nat} {h : yH} (Pd : cPb 0 h) (Ps : cPb 1000 h) (hb : 0 ≤ h 1004 1 ∧ h 1004 1 ≤ 600) : yR (f_X8_copyFrom_a0 n [4, 1004] h) (fun _ h1 => h1 4 1 = h 1004 1 ∧ (∀ i : Nat, (i : Int) < h 1004 1 → h1 5 i = h 1005 i) ∧ ∀ a j, ¬ a = 5 → ¬ (a = 4 ∧ j = 1) → h1 a j = h a j) := by
  refine yR.e e_X8_copyFrom_a0 ?_
  refine yR.g (Ps.p (a := 4) (j := 0) (v := 5) (by decide)) ?_
  refine yR.g (Pd.p (a := 4) (j := 0) (v := 5) (by decide)) ?_
  refine yR.g (by omega) ?_
  refine yR.h ?_
  have e1 : zcy h 5 1005 0 0 (h 1004 1).toNat 1004 1 = h 1004 1 := by rw [zcy_app, if_neg (by omega)]
  refine yR.g (by rw [e1]; exact hb) ?_
  refine yR.s ⟨by rw [zup_at, e1], fun i hi => by rw [zup_ne (by omega), zcy_app, if_pos (by omega), show 0 + (i - 0) = i by omega], fun a j w1 w2 => by rw [zup_ne w2, zcy_app, if_neg (by omega)]⟩
set_option maxRecDepth 10000 in
theorem tcp_a0 {n : Nat} {h : yH} (hn : 3 ≤ n) (Pd : cPb 0 h) (Ps : cPb 1000 h) (hb : cBb 1000 h) : yR (f_X9_copyFrom_a0 n [3, 1003] h) (fun _ h2 => tcR 0 1000 h h2) := by
  have hds : 0 + 100 ≤ 1000 ∨ 1000 + 100 ≤ 0 := by decide
  refine yR.e e_X9_copyFrom_a0 ?_
  refine yR.g (Pd.p (a := 3) (j := 0) (v := 4) (by decide)) ?_
  refine yR.g (Ps.p (a := 3) (j := 0) (v := 4) (by decide)) ?_
  refine yR.b (tap_a0 (n := n) Pd Ps hb.1) (fun _ h1 ⟨t1, t2, t3⟩ => ?_)
  have Pd1 : cPb 0 h1 := Pd.fr (fun p hp => t3 _ _ (by
    have : ∀ p ∈ cPLb, p.1 ≠ 5 := by decide +kernel
    have := this p hp
    omega) (by
    have : ∀ p ∈ cPLb, ¬ (p.1 = 4 ∧ p.2.1 = 1) := by decide +kernel
    have := this p hp
    omega))
  have Fs1 : ∀ a j, 1003 ≤ a → a ≤ 1000 + 79 → h1 a j = h a j := fun a j w1 w2 => t3 a j (by omega) (by omega)
  have Ps1 : cPb 1000 h1 := Ps.fr (fun p hp => Fs1 _ _ (by have := cPLb_b p hp; omega) (by have := cPLb_b p hp; omega))
  refine yR.g (Ps1.p (a := 3) (j := 1) (v := 6) (by decide)) ?_
  refine yR.g (Pd1.p (a := 3) (j := 1) (v := 6) (by decide)) ?_
  refine yR.h ?_
  have z5 : ∀ a j, zcy h1 6 1006 0 0 3 a j = if a = 6 ∧ j < 3 then h1 1006 j else h1 a j := fun a j => by
    rw [zcy_app]
    by_cases w : a = 6 ∧ j < 3
    · rw [if_pos (by omega), if_pos w, show 0 + (j - 0) = j by omega]
    · rw [if_neg (by omega), if_neg w]
  generalize zcy h1 6 1006 0 0 3 = g0 at z5 ⊢
  have Pd0 : cPb 0 g0 := Pd1.fr (fun p hp => by rw [z5, if_neg (by
    have : ∀ p ∈ cPLb, p.1 ≠ 6 := by decide +kernel
    have := this p hp
    omega)])
  have F0 : ∀ a j, ¬ (3 ≤ a ∧ a ≤ 0 + 19) → g0 a j = h a j := fun a j w => by
    rw [z5, if_neg (by omega)]
    exact t3 a j (by omega) (by omega)
  have Ps0 : cPb 1000 g0 := Ps.fr (fun p hp => F0 _ _ (by have := cPLb_b p hp; omega))
  have B0 : cBb 1000 g0 := hb.fr (fun a j w1 w2 => F0 a j (by omega))
  obtain ⟨n, rfl⟩ : ∃ n', n = n' + 3 := ⟨n - 3, by omega⟩
  refine yR.e e_X9_copyFrom_a0_27 ?_
  refine yR.t (by decide) ?_
  refine yR.g (Pd0.p (a := 3) (j := 2) (v := 7) (by decide)) ?_
  refine yR.g (by decide) ?_
  refine yR.g (Pd0.p (a := 7) (j := 0) (v := 20) (by decide)) ?_
  refine yR.g (Ps0.p (a := 3) (j := 2) (v := 7) (by decide)) ?_
  refine yR.g (by decide) ?_
  refine yR.g (Ps0.p (a := 7) (j := 0) (v := 20) (by decide)) ?_
  refine yR.b (stepS (d := 0) (s := 1000) (i := 0) hds (by decide) Pd0 Ps0 B0) (fun _ g1 ⟨r1, F1, Pd1, Ps1, B1⟩ => ?_)
  refine yR.g (Pd1.p (a := 3) (j := 3) (v := 8) (by decide)) ?_
  refine yR.g (by decide) ?_
  refine yR.g (Pd1.p (a := 8) (j := 0) (v := 40) (by decide)) ?_
  refine yR.g (Ps1.p (a := 3) (j := 3) (v := 8) (by decide)) ?_
  refine yR.g (by decide) ?_
  refine yR.g (Ps1.p (a := 8) (j := 0) (v := 40) (by decide)) ?_
  refine yR.b (stepD (d := 0) (s := 1000) (i := 0) hds (by decide) Pd1 Ps1 B1) (fun _ g2 ⟨r2, F2, Pd2, Ps2, B2⟩ => ?_)
  refine yR.g (Pd2.p (a := 3) (j := 4) (v := 9) (by decide)) ?_
  refine yR.g (by decide) ?_
  refine yR.g (Pd2.p (a := 9) (j := 0) (v := 60) (by decide)) ?_
  refine yR.g (Ps2.p (a := 3) (j := 4) (v := 9) (by decide)) ?_
  refine yR.g (by decide) ?_
  refine yR.g (Ps2.p (a := 9) (j := 0) (v := 60) (by decide)) ?_
  refine yR.b (stepQ (d := 0) (s := 1000) (i := 0) hds (by decide) Pd2 Ps2 B2) (fun _ g3 ⟨r3, F3, Pd3, Ps3, B3⟩ => ?_)
  refine yR.g (by decide) ?_
  refine yR.e e_X9_copyFrom_a0_27 ?_
  refine yR.t (by decide) ?_
  refine yR.g (Pd3.p (a := 3) (j := 2) (v := 7) (by decide)) ?_
  refine yR.g (by decide) ?_
  refine yR.g (Pd3.p (a := 7) (j := 1) (v := 30) (by decide)) ?_
  refine yR.g (Ps3.p (a := 3) (j := 2) (v := 7) (by decide)) ?_
  refine yR.g (by decide) ?_
  refine yR.g (Ps3.p (a := 7) (j := 1) (v := 30) (by decide)) ?_
  refine yR.b (stepS (d := 0) (s := 1000) (i := 1) hds (by decide) Pd3 Ps3 B3) (fun _ g4 ⟨r4, F4, Pd4, Ps4, B4⟩ => ?_)
  refine yR.g (Pd4.p (a := 3) (j := 3) (v := 8) (by decide)) ?_
  refine yR.g (by decide) ?_
  refine yR.g (Pd4.p (a := 8) (j := 1) (v := 50) (by decide)) ?_
  refine yR.g (Ps4.p (a := 3) (j := 3) (v := 8) (by decide)) ?_
  refine yR.g (by decide) ?_
  refine yR.g (Ps4.p (a := 8) (j := 1) (v := 50) (by decide)) ?_
  refine yR.b (stepD (d := 0) (s := 1000) (i := 1) hds (by decide) Pd4 Ps4 B4) (fun _ g5 ⟨r5, F5, Pd5, Ps5, B5⟩ => ?_)
  refine yR.g (Pd5.p (a := 3) (j := 4) (v := 9) (by decide)) ?_
  refine yR.g (by decide) ?_
  refine yR.g (Pd5.p (a := 9) (j := 1) (v := 70) (by decide)) ?_
  refine yR.g (Ps5.p (a := 3) (j := 4) (v := 9) (by decide)) ?_
  refine yR.g (by decide) ?_
  refine yR.g (Ps5.p (a := 9) (j := 1) (v := 70) (by decide)) ?_
  refine yR.b (stepQ (d := 0) (s := 1000) (i := 1) hds (by decide) Pd5 Ps5 B5) (fun _ g6 ⟨r6, F6, Pd6, Ps6, B6⟩ => ?_)
  refine yR.g (by decide) ?_
  refine yR.e e_X9_copyFrom_a0_27 ?_
  refine yR.f (by decide) ?_
  refine yR.s ?_
  have G : ∀ a j, ¬ (0 + 20 ≤ a ∧ a ≤ 0 + 79) → g6 a j = g0 a j := fun a j w => by
    rw [F6 a j (by omega), F5 a j (by omega), F4 a j (by omega), F3 a j (by omega), F2 a j (by omega), F1 a j (by omega)]
  have U : ∀ a j, ¬ (a = 3) → zup (zup g6 3 5 (g6 1003 5)) 3 6 (g6 1003 6) a j = g6 a j := fun a j w => by rw [zup_ne (by omega), zup_ne (by omega)]
  have src : ∀ a j, 1003 ≤ a → a ≤ 1000 + 79 → g6 a j = h a j := fun a j w1 w2 => (G a j (by omega)).trans (F0 a j (by omega))
  refine ⟨by rw [U _ _ (by omega), G _ _ (by omega), z5, if_neg (by omega)]; exact t1, fun i hi => by rw [U _ _ (by omega), G _ _ (by omega), z5, if_neg (by omega)]; exact t2 i hi, fun j hj => by rw [U _ _ (by omega), G _ _ (by omega), z5, if_pos (by omega)]; exact Fs1 _ _ (by decide) (by decide), fun i hi t ht => ?_, fun i hi t ht => ?_, fun i hi t ht => ?_, ?_, ?_, ?_, fun a j w => ?_⟩
  · rcases (show i = 0 ∨ i = 1 by omega) with rfl | rfl
    · exact cS.at (b := 0 + 20 + 10 * 0) (fun a j w1 w2 => by rw [U a j (by omega), F6 a j (by omega), F5 a j (by omega), F4 a j (by omega), F3 a j (by omega), F2 a j (by omega)]) (r1 t (cS.at (fun a j w1 w2 => by rw [F0 a j (by omega)]) ht))
    · exact cS.at (b := 0 + 20 + 10 * 1) (fun a j w1 w2 => by rw [U a j (by omega), F6 a j (by omega), F5 a j (by omega)]) (r4 t (cS.at (fun a j w1 w2 => by rw [F3 a j (by omega), F2 a j (by omega), F1 a j (by omega), F0 a j (by omega)]) ht))
  · rcases (show i = 0 ∨ i = 1 by omega) with rfl | rfl
    · exact cD.at (b := 0 + 40 + 10 * 0) (fun a j w1 w2 => by rw [U a j (by omega), F6 a j (by omega), F5 a j (by omega), F4 a j (by omega), F3 a j (by omega)]) (r2 t (cD.at (fun a j w1 w2 => by rw [F1 a j (by omega), F0 a j (by omega)]) ht))
    · exact cD.at (b := 0 + 40 + 10 * 1) (fun a j w1 w2 => by rw [U a j (by omega), F6 a j (by omega)]) (r5 t (cD.at (fun a j w1 w2 => by rw [F4 a j (by omega), F3 a j (by omega), F2 a j (by omega), F1 a j (by omega), F0 a j (by omega)]) ht))
  · rcases (show i = 0 ∨ i = 1 by omega) with rfl | rfl
    · exact cQ.at (b := 0 + 60 + 10 * 0) (fun a j w1 w2 => by rw [U a j (by omega), F6 a j (by omega), F5 a j (by omega), F4 a j (by omega)]) (r3 t (cQ.at (fun a j w1 w2 => by rw [F2 a j (by omega), F1 a j (by omega), F0 a j (by omega)]) ht))
    · exact cQ.at (b := 0 + 60 + 10 * 1) (fun a j w1 w2 => by rw [U a j (by omega)]) (r6 t (cQ.at (fun a j w1 w2 => by rw [F5 a j (by omega), F4 a j (by omega), F3 a j (by omega), F2 a j (by omega), F1 a j (by omega), F0 a j (by omega)]) ht))
  · rw [zup_ne (by omega), zup_at]
    exact src _ _ (by decide) (by decide)
  · rw [zup_at]
    exact src _ _ (by decide) (by decide)
  · refine Pd6.fr (fun p hp => ?_)
    have : ∀ p ∈ cPLb, ¬ (p.1 = 3 ∧ (p.2.1 = 5 ∨ p.2.1 = 6)) := by decide +kernel
    have := this p hp
    rw [zup_ne (by omega), zup_ne (by omega)]
  · rw [U a j (by omega), G a j (by omega)]
    exact F0 a j (by omega)
theorem tap_i1 {n : Nat} {h : yH} (Pd : cPb 2000 h) (Ps : cPb 0 h) (hb : 0 ≤ h 4 1 ∧ h 4 1 ≤ 600) : yR (f_X8_copyFrom_i1 n [2004, 4] h) (fun _ h1 => h1 2004 1 = h 4 1 ∧ (∀ i : Nat, (i : Int) < h 4 1 → h1 2005 i = h 5 i) ∧ ∀ a j, ¬ a = 2005 → ¬ (a = 2004 ∧ j = 1) → h1 a j = h a j) := by
  refine yR.e e_X8_copyFrom_i1 ?_
  refine yR.g (Ps.p (a := 4) (j := 0) (v := 5) (by decide)) ?_
  refine yR.g (Pd.p (a := 4) (j := 0) (v := 5) (by decide)) ?_
  refine yR.g (by omega) ?_
  refine yR.h ?_
  have e1 : zcy h 2005 5 0 0 (h 4 1).toNat 4 1 = h 4 1 := by rw [zcy_app, if_neg (by omega)]
  refine yR.g (by rw [e1]; exact hb) ?_
  refine yR.s ⟨by rw [zup_at, e1], fun i hi => by rw [zup_ne (by omega), zcy_app, if_pos (by omega), show 0 + (i - 0) = i by omega], fun a j w1 w2 => by rw [zup_ne w2, zcy_app, if_neg (by omega)]⟩
set_option maxRecDepth 10000 in
theorem tcp_i1 {n : Nat} {h : yH} (hn : 3 ≤ n) (Pd : cPb 2000 h) (Ps : cPb 0 h) (hb : cBb 0 h) : yR (f_X9_copyFrom_i1 n [2003, 3] h) (fun _ h2 => tcR 2000 0 h h2) := by
  have hds : 2000 + 100 ≤ 0 ∨ 0 + 100 ≤ 2000 := by decide
  refine yR.e e_X9_copyFrom_i1 ?_
  refine yR.g (Pd.p (a := 3) (j := 0) (v := 4) (by decide)) ?_
  refine yR.g (Ps.p (a := 3) (j := 0) (v := 4) (by decide)) ?_
  refine yR.b (tap_i1 (n := n) Pd Ps hb.1) (fun _ h1 ⟨t1, t2, t3⟩ => ?_)
  have Pd1 : cPb 2000 h1 := Pd.fr (fun p hp => t3 _ _ (by
    have : ∀ p ∈ cPLb, p.1 ≠ 5 := by decide +kernel
    have := this p hp
    omega) (by
    have : ∀ p ∈ cPLb, ¬ (p.1 = 4 ∧ p.2.1 = 1) := by decide +kernel
    have := this p hp
    omega))
  have Fs1 : ∀ a j, 3 ≤ a → a ≤ 0 + 79 → h1 a j = h a j := fun a j w1 w2 => t3 a j (by omega) (by omega)
  have Ps1 : cPb 0 h1 := Ps.fr (fun p hp => Fs1 _ _ (by have := cPLb_b p hp; omega) (by have := cPLb_b p hp; omega))
  refine yR.g (Ps1.p (a := 3) (j := 1) (v := 6) (by decide)) ?_
  refine yR.g (Pd1.p (a := 3) (j := 1) (v := 6) (by decide)) ?_
  refine yR.h ?_
  have z5 : ∀ a j, zcy h1 2006 6 0 0 3 a j = if a = 2006 ∧ j < 3 then h1 6 j else h1 a j := fun a j => by
    rw [zcy_app]
    by_cases w : a = 2006 ∧ j < 3
    · rw [if_pos (by omega), if_pos w, show 0 + (j - 0) = j by omega]
    · rw [if_neg (by omega), if_neg w]
  generalize zcy h1 2006 6 0 0 3 = g0 at z5 ⊢
  have Pd0 : cPb 2000 g0 := Pd1.fr (fun p hp => by rw [z5, if_neg (by
    have : ∀ p ∈ cPLb, p.1 ≠ 6 := by decide +kernel
    have := this p hp
    omega)])
  have F0 : ∀ a j, ¬ (2003 ≤ a ∧ a ≤ 2000 + 19) → g0 a j = h a j := fun a j w => by
    rw [z5, if_neg (by omega)]
    exact t3 a j (by omega) (by omega)
  have Ps0 : cPb 0 g0 := Ps.fr (fun p hp => F0 _ _ (by have := cPLb_b p hp; omega))
  have B0 : cBb 0 g0 := hb.fr (fun a j w1 w2 => F0 a j (by omega))
  obtain ⟨n, rfl⟩ : ∃ n', n = n' + 3 := ⟨n - 3, by omega⟩
  refine yR.e e_X9_copyFrom_i1_27 ?_
  refine yR.t (by decide) ?_
  refine yR.g (Pd0.p (a := 3) (j := 2) (v := 7) (by decide)) ?_
  refine yR.g (by decide) ?_
  refine yR.g (Pd0.p (a := 7) (j := 0) (v := 20) (by decide)) ?_
  refine yR.g (Ps0.p (a := 3) (j := 2) (v := 7) (by decide)) ?_
  refine yR.g (by decide) ?_
  refine yR.g (Ps0.p (a := 7) (j := 0) (v := 20) (by decide)) ?_
  refine yR.b (stepS (d := 2000) (s := 0) (i := 0) hds (by decide) Pd0 Ps0 B0) (fun _ g1 ⟨r1, F1, Pd1, Ps1, B1⟩ => ?_)
  refine yR.g (Pd1.p (a := 3) (j := 3) (v := 8) (by decide)) ?_
  refine yR.g (by decide) ?_
  refine yR.g (Pd1.p (a := 8) (j := 0) (v := 40) (by decide)) ?_
  refine yR.g (Ps1.p (a := 3) (j := 3) (v := 8) (by decide)) ?_
  refine yR.g (by decide) ?_
  refine yR.g (Ps1.p (a := 8) (j := 0) (v := 40) (by decide)) ?_
  refine yR.b (stepD (d := 2000) (s := 0) (i := 0) hds (by decide) Pd1 Ps1 B1) (fun _ g2 ⟨r2, F2, Pd2, Ps2, B2⟩ => ?_)
  refine yR.g (Pd2.p (a := 3) (j := 4) (v := 9) (by decide)) ?_
  refine yR.g (by decide) ?_
  refine yR.g (Pd2.p (a := 9) (j := 0) (v := 60) (by decide)) ?_
  refine yR.g (Ps2.p (a := 3) (j := 4) (v := 9) (by decide)) ?_
  refine yR.g (by decide) ?_
  refine yR.g (Ps2.p (a := 9) (j := 0) (v := 60) (by decide)) ?_
  refine yR.b (stepQ (d := 2000) (s := 0) (i := 0) hds (by decide) Pd2 Ps2 B2) (fun _ g3 ⟨r3, F3, Pd3, Ps3, B3⟩ => ?_)
  refine yR.g (by decide) ?_
  refine yR.e e_X9_copyFrom_i1_27 ?_
  refine yR.t (by decide) ?_
  refine yR.g (Pd3.p (a := 3) (j := 2) (v := 7) (by decide)) ?_
  refine yR.g (by decide) ?_
  refine yR.g (Pd3.p (a := 7) (j := 1) (v := 30) (by decide)) ?_
  refine yR.g (Ps3.p (a := 3) (j := 2) (v := 7) (by decide)) ?_
  refine yR.g (by decide) ?_
  refine yR.g (Ps3.p (a := 7) (j := 1) (v := 30) (by decide)) ?_
  refine yR.b (stepS (d := 2000) (s := 0) (i := 1) hds (by decide) Pd3 Ps3 B3) (fun _ g4 ⟨r4, F4, Pd4, Ps4, B4⟩ => ?_)
  refine yR.g (Pd4.p (a := 3) (j := 3) (v := 8) (by decide)) ?_
  refine yR.g (by decide) ?_
  refine yR.g (Pd4.p (a := 8) (j := 1) (v := 50) (by decide)) ?_
  refine yR.g (Ps4.p (a := 3) (j := 3) (v := 8) (by decide)) ?_
  refine yR.g (by decide) ?_
  refine yR.g (Ps4.p (a := 8) (j := 1) (v := 50) (by decide)) ?_
  refine yR.b (stepD (d := 2000) (s := 0) (i := 1) hds (by decide) Pd4 Ps4 B4) (fun _ g5 ⟨r5, F5, Pd5, Ps5, B5⟩ => ?_)
  refine yR.g (Pd5.p (a := 3) (j := 4) (v := 9) (by decide)) ?_
  refine yR.g (by decide) ?_
  refine yR.g (Pd5.p (a := 9) (j := 1) (v := 70) (by decide)) ?_
  refine yR.g (Ps5.p (a := 3) (j := 4) (v := 9) (by decide)) ?_
  refine yR.g (by decide) ?_
  refine yR.g (Ps5.p (a := 9) (j := 1) (v := 70) (by decide)) ?_
  refine yR.b (stepQ (d := 2000) (s := 0) (i := 1) hds (by decide) Pd5 Ps5 B5) (fun _ g6 ⟨r6, F6, Pd6, Ps6, B6⟩ => ?_)
  refine yR.g (by decide) ?_
  refine yR.e e_X9_copyFrom_i1_27 ?_
  refine yR.f (by decide) ?_
  refine yR.s ?_
  have G : ∀ a j, ¬ (2000 + 20 ≤ a ∧ a ≤ 2000 + 79) → g6 a j = g0 a j := fun a j w => by
    rw [F6 a j (by omega), F5 a j (by omega), F4 a j (by omega), F3 a j (by omega), F2 a j (by omega), F1 a j (by omega)]
  have U : ∀ a j, ¬ (a = 2003) → zup (zup g6 2003 5 (g6 3 5)) 2003 6 (g6 3 6) a j = g6 a j := fun a j w => by rw [zup_ne (by omega), zup_ne (by omega)]
  have src : ∀ a j, 3 ≤ a → a ≤ 0 + 79 → g6 a j = h a j := fun a j w1 w2 => (G a j (by omega)).trans (F0 a j (by omega))
  refine ⟨by rw [U _ _ (by omega), G _ _ (by omega), z5, if_neg (by omega)]; exact t1, fun i hi => by rw [U _ _ (by omega), G _ _ (by omega), z5, if_neg (by omega)]; exact t2 i hi, fun j hj => by rw [U _ _ (by omega), G _ _ (by omega), z5, if_pos (by omega)]; exact Fs1 _ _ (by decide) (by decide), fun i hi t ht => ?_, fun i hi t ht => ?_, fun i hi t ht => ?_, ?_, ?_, ?_, fun a j w => ?_⟩
  · rcases (show i = 0 ∨ i = 1 by omega) with rfl | rfl
    · exact cS.at (b := 2000 + 20 + 10 * 0) (fun a j w1 w2 => by rw [U a j (by omega), F6 a j (by omega), F5 a j (by omega), F4 a j (by omega), F3 a j (by omega), F2 a j (by omega)]) (r1 t (cS.at (fun a j w1 w2 => by rw [F0 a j (by omega)]) ht))
    · exact cS.at (b := 2000 + 20 + 10 * 1) (fun a j w1 w2 => by rw [U a j (by omega), F6 a j (by omega), F5 a j (by omega)]) (r4 t (cS.at (fun a j w1 w2 => by rw [F3 a j (by omega), F2 a j (by omega), F1 a j (by omega), F0 a j (by omega)]) ht))
  · rcases (show i = 0 ∨ i = 1 by omega) with rfl | rfl
    · exact cD.at (b := 2000 + 40 + 10 * 0) (fun a j w1 w2 => by rw [U a j (by omega), F6 a j (by omega), F5 a j (by omega), F4 a j (by omega), F3 a j (by omega)]) (r2 t (cD.at (fun a j w1 w2 => by rw [F1 a j (by omega), F0 a j (by omega)]) ht))
    · exact cD.at (b := 2000 + 40 + 10 * 1) (fun a j w1 w2 => by rw [U a j (by omega), F6 a j (by omega)]) (r5 t (cD.at (fun a j w1 w2 => by rw [F4 a j (by omega), F3 a j (by omega), F2 a j (by omega), F1 a j (by omega), F0 a j (by omega)]) ht))
  · rcases (show i = 0 ∨ i = 1 by omega) with rfl | rfl
    · exact cQ.at (b := 2000 + 60 + 10 * 0) (fun a j w1 w2 => by rw [U a j (by omega), F6 a j (by omega), F5 a j (by omega), F4 a j (by omega)]) (r3 t (cQ.at (fun a j w1 w2 => by rw [F2 a j (by omega), F1 a j (by omega), F0 a j (by omega)]) ht))
    · exact cQ.at (b := 2000 + 60 + 10 * 1) (fun a j w1 w2 => by rw [U a j (by omega)]) (r6 t (cQ.at (fun a j w1 w2 => by rw [F5 a j (by omega), F4 a j (by omega), F3 a j (by omega), F2 a j (by omega), F1 a j (by omega), F0 a j (by omega)]) ht))
  · rw [zup_ne (by omega), zup_at]
    exact src _ _ (by decide) (by decide)
  · rw [zup_at]
    exact src _ _ (by decide) (by decide)
  · refine Pd6.fr (fun p hp => ?_)
    have : ∀ p ∈ cPLb, ¬ (p.1 = 3 ∧ (p.2.1 = 5 ∨ p.2.1 = 6)) := by decide +kernel
    have := this p hp
    rw [zup_ne (by omega), zup_ne (by omega)]
  · rw [U a j (by omega), G a j (by omega)]
    exact F0 a j (by omega)
theorem tap_a1 {n : Nat} {h : yH} (Pd : cPb 0 h) (Ps : cPb 2000 h) (hb : 0 ≤ h 2004 1 ∧ h 2004 1 ≤ 600) : yR (f_X8_copyFrom_a1 n [4, 2004] h) (fun _ h1 => h1 4 1 = h 2004 1 ∧ (∀ i : Nat, (i : Int) < h 2004 1 → h1 5 i = h 2005 i) ∧ ∀ a j, ¬ a = 5 → ¬ (a = 4 ∧ j = 1) → h1 a j = h a j) := by
  refine yR.e e_X8_copyFrom_a1 ?_
  refine yR.g (Ps.p (a := 4) (j := 0) (v := 5) (by decide)) ?_
  refine yR.g (Pd.p (a := 4) (j := 0) (v := 5) (by decide)) ?_
  refine yR.g (by omega) ?_
  refine yR.h ?_
  have e1 : zcy h 5 2005 0 0 (h 2004 1).toNat 2004 1 = h 2004 1 := by rw [zcy_app, if_neg (by omega)]
  refine yR.g (by rw [e1]; exact hb) ?_
  refine yR.s ⟨by rw [zup_at, e1], fun i hi => by rw [zup_ne (by omega), zcy_app, if_pos (by omega), show 0 + (i - 0) = i by omega], fun a j w1 w2 => by rw [zup_ne w2, zcy_app, if_neg (by omega)]⟩
set_option maxRecDepth 10000 in
theorem tcp_a1 {n : Nat} {h : yH} (hn : 3 ≤ n) (Pd : cPb 0 h) (Ps : cPb 2000 h) (hb : cBb 2000 h) : yR (f_X9_copyFrom_a1 n [3, 2003] h) (fun _ h2 => tcR 0 2000 h h2) := by
  have hds : 0 + 100 ≤ 2000 ∨ 2000 + 100 ≤ 0 := by decide
  refine yR.e e_X9_copyFrom_a1 ?_
  refine yR.g (Pd.p (a := 3) (j := 0) (v := 4) (by decide)) ?_
  refine yR.g (Ps.p (a := 3) (j := 0) (v := 4) (by decide)) ?_
  refine yR.b (tap_a1 (n := n) Pd Ps hb.1) (fun _ h1 ⟨t1, t2, t3⟩ => ?_)
  have Pd1 : cPb 0 h1 := Pd.fr (fun p hp => t3 _ _ (by
    have : ∀ p ∈ cPLb, p.1 ≠ 5 := by decide +kernel
    have := this p hp
    omega) (by
    have : ∀ p ∈ cPLb, ¬ (p.1 = 4 ∧ p.2.1 = 1) := by decide +kernel
    have := this p hp
    omega))
  have Fs1 : ∀ a j, 2003 ≤ a → a ≤ 2000 + 79 → h1 a j = h a j := fun a j w1 w2 => t3 a j (by omega) (by omega)
  have Ps1 : cPb 2000 h1 := Ps.fr (fun p hp => Fs1 _ _ (by have := cPLb_b p hp; omega) (by have := cPLb_b p hp; omega))
  refine yR.g (Ps1.p (a := 3) (j := 1) (v := 6) (by decide)) ?_
  refine yR.g (Pd1.p (a := 3) (j := 1) (v := 6) (by decide)) ?_
  refine yR.h ?_
  have z5 : ∀ a j, zcy h1 6 2006 0 0 3 a j = if a = 6 ∧ j < 3 then h1 2006 j else h1 a j := fun a j => by
    rw [zcy_app]
    by_cases w : a = 6 ∧ j < 3
    · rw [if_pos (by omega), if_pos w, show 0 + (j - 0) = j by omega]
    · rw [if_neg (by omega), if_neg w]
  generalize zcy h1 6 2006 0 0 3 = g0 at z5 ⊢
  have Pd0 : cPb 0 g0 := Pd1.fr (fun p hp => by rw [z5, if_neg (by
    have : ∀ p ∈ cPLb, p.1 ≠ 6 := by decide +kernel
    have := this p hp
    omega)])
  have F0 : ∀ a j, ¬ (3 ≤ a ∧ a ≤ 0 + 19) → g0 a j = h a j := fun a j w => by
    rw [z5, if_neg (by omega)]
    exact t3 a j (by omega) (by omega)
  have Ps0 : cPb 2000 g0 := Ps.fr (fun p hp => F0 _ _ (by have := cPLb_b p hp; omega))
  have B0 : cBb 2000 g0 := hb.fr (fun a j w1 w2 => F0 a j (by omega))
  obtain ⟨n, rfl⟩ : ∃ n', n = n' + 3 := ⟨n - 3, by omega⟩
  refine yR.e e_X9_copyFrom_a1_27 ?_
  refine yR.t (by decide) ?_
  refine yR.g (Pd0.p (a := 3) (j := 2) (v := 7) (by decide)) ?_
  refine yR.g (by decide) ?_
  refine yR.g (Pd0.p (a := 7) (j := 0) (v := 20) (by decide)) ?_
  refine yR.g (Ps0.p (a := 3) (j := 2) (v := 7) (by decide)) ?_
  refine yR.g (by decide) ?_
  refine yR.g (Ps0.p (a := 7) (j := 0) (v := 20) (by decide)) ?_
  refine yR.b (stepS (d := 0) (s := 2000) (i := 0) hds (by decide) Pd0 Ps0 B0) (fun _ g1 ⟨r1, F1, Pd1, Ps1, B1⟩ => ?_)
  refine yR.g (Pd1.p (a := 3) (j := 3) (v := 8) (by decide)) ?_
  refine yR.g (by decide) ?_
  refine yR.g (Pd1.p (a := 8) (j := 0) (v := 40) (by decide)) ?_
  refine yR.g (Ps1.p (a := 3) (j := 3) (v := 8) (by decide)) ?_
  refine yR.g (by decide) ?_
  refine yR.g (Ps1.p (a := 8) (j := 0) (v := 40) (by decide)) ?_
  refine yR.b (stepD (d := 0) (s := 2000) (i := 0) hds (by decide) Pd1 Ps1 B1) (fun _ g2 ⟨r2, F2, Pd2, Ps2, B2⟩ => ?_)
  refine yR.g (Pd2.p (a := 3) (j := 4) (v := 9) (by decide)) ?_
  refine yR.g (by decide) ?_
  refine yR.g (Pd2.p (a := 9) (j := 0) (v := 60) (by decide)) ?_
  refine yR.g (Ps2.p (a := 3) (j := 4) (v := 9) (by decide)) ?_
  refine yR.g (by decide) ?_
  refine yR.g (Ps2.p (a := 9) (j := 0) (v := 60) (by decide)) ?_
  refine yR.b (stepQ (d := 0) (s := 2000) (i := 0) hds (by decide) Pd2 Ps2 B2) (fun _ g3 ⟨r3, F3, Pd3, Ps3, B3⟩ => ?_)
  refine yR.g (by decide) ?_
  refine yR.e e_X9_copyFrom_a1_27 ?_
  refine yR.t (by decide) ?_
  refine yR.g (Pd3.p (a := 3) (j := 2) (v := 7) (by decide)) ?_
  refine yR.g (by decide) ?_
  refine yR.g (Pd3.p (a := 7) (j := 1) (v := 30) (by decide)) ?_
  refine yR.g (Ps3.p (a := 3) (j := 2) (v := 7) (by decide)) ?_
  refine yR.g (by decide) ?_
  refine yR.g (Ps3.p (a := 7) (j := 1) (v := 30) (by decide)) ?_
  refine yR.b (stepS (d := 0) (s := 2000) (i := 1) hds (by decide) Pd3 Ps3 B3) (fun _ g4 ⟨r4, F4, Pd4, Ps4, B4⟩ => ?_)
  refine yR.g (Pd4.p (a := 3) (j := 3) (v := 8) (by decide)) ?_
  refine yR.g (by decide) ?_
  refine yR.g (Pd4.p (a := 8) (j := 1) (v := 50) (by decide)) ?_
  refine yR.g (Ps4.p (a := 3) (j := 3) (v := 8) (by decide)) ?_
  refine yR.g (by decide) ?_
  refine yR.g (Ps4.p (a := 8) (j := 1) (v := 50) (by decide)) ?_
  refine yR.b (stepD (d := 0) (s := 2000) (i := 1) hds (by decide) Pd4 Ps4 B4) (fun _ g5 ⟨r5, F5, Pd5, Ps5, B5⟩ => ?_)
  refine yR.g (Pd5.p (a := 3) (j := 4) (v := 9) (by decide)) ?_
  refine yR.g (by decide) ?_
  refine yR.g (Pd5.p (a := 9) (j := 1) (v := 70) (by decide)) ?_
  refine yR.g (Ps5.p (a := 3) (j := 4) (v := 9) (by decide)) ?_
  refine yR.g (by decide) ?_
  refine yR.g (Ps5.p (a := 9) (j := 1) (v := 70) (by decide)) ?_
  refine yR.b (stepQ (d := 0) (s := 2000) (i := 1) hds (by decide) Pd5 Ps5 B5) (fun _ g6 ⟨r6, F6, Pd6, Ps6, B6⟩ => ?_)
  refine yR.g (by decide) ?_
  refine yR.e e_X9_copyFrom_a1_27 ?_
  refine yR.f (by decide) ?_
  refine yR.s ?_
  have G : ∀ a j, ¬ (0 + 20 ≤ a ∧ a ≤ 0 + 79) → g6 a j = g0 a j := fun a j w => by
    rw [F6 a j (by omega), F5 a j (by omega), F4 a j (by omega), F3 a j (by omega), F2 a j (by omega), F1 a j (by omega)]
  have U : ∀ a j, ¬ (a = 3) → zup (zup g6 3 5 (g6 2003 5)) 3 6 (g6 2003 6) a j = g6 a j := fun a j w => by rw [zup_ne (by omega), zup_ne (by omega)]
  have src : ∀ a j, 2003 ≤ a → a ≤ 2000 + 79 → g6 a j = h a j := fun a j w1 w2 => (G a j (by omega)).trans (F0 a j (by omega))
  refine ⟨by rw [U _ _ (by omega), G _ _ (by omega), z5, if_neg (by omega)]; exact t1, fun i hi => by rw [U _ _ (by omega), G _ _ (by omega), z5, if_neg (by omega)]; exact t2 i hi, fun j hj => by rw [U _ _ (by omega), G _ _ (by omega), z5, if_pos (by omega)]; exact Fs1 _ _ (by decide) (by decide), fun i hi t ht => ?_, fun i hi t ht => ?_, fun i hi t ht => ?_, ?_, ?_, ?_, fun a j w => ?_⟩
  · rcases (show i = 0 ∨ i = 1 by omega) with rfl | rfl
    · exact cS.at (b := 0 + 20 + 10 * 0) (fun a j w1 w2 => by rw [U a j (by omega), F6 a j (by omega), F5 a j (by omega), F4 a j (by omega), F3 a j (by omega), F2 a j (by omega)]) (r1 t (cS.at (fun a j w1 w2 => by rw [F0 a j (by omega)]) ht))
    · exact cS.at (b := 0 + 20 + 10 * 1) (fun a j w1 w2 => by rw [U a j (by omega), F6 a j (by omega), F5 a j (by omega)]) (r4 t (cS.at (fun a j w1 w2 => by rw [F3 a j (by omega), F2 a j (by omega), F1 a j (by omega), F0 a j (by omega)]) ht))
  · rcases (show i = 0 ∨ i = 1 by omega) with rfl | rfl
    · exact cD.at (b := 0 + 40 + 10 * 0) (fun a j w1 w2 => by rw [U a j (by omega), F6 a j (by omega), F5 a j (by omega), F4 a j (by omega), F3 a j (by omega)]) (r2 t (cD.at (fun a j w1 w2 => by rw [F1 a j (by omega), F0 a j (by omega)]) ht))
    · exact cD.at (b := 0 + 40 + 10 * 1) (fun a j w1 w2 => by rw [U a j (by omega), F6 a j (by omega)]) (r5 t (cD.at (fun a j w1 w2 => by rw [F4 a j (by omega), F3 a j (by omega), F2 a j (by omega), F1 a j (by omega), F0 a j (by omega)]) ht))
  · rcases (show i = 0 ∨ i = 1 by omega) with rfl | rfl
    · exact cQ.at (b := 0 + 60 + 10 * 0) (fun a j w1 w2 => by rw [U a j (by omega), F6 a j (by omega), F5 a j (by omega), F4 a j (by omega)]) (r3 t (cQ.at (fun a j w1 w2 => by rw [F2 a j (by omega), F1 a j (by omega), F0 a j (by omega)]) ht))
    · exact cQ.at (b := 0 + 60 + 10 * 1) (fun a j w1 w2 => by rw [U a j (by omega)]) (r6 t (cQ.at (fun a j w1 w2 => by rw [F5 a j (by omega), F4 a j (by omega), F3 a j (by omega), F2 a j (by omega), F1 a j (by omega), F0 a j (by omega)]) ht))
  · rw [zup_ne (by omega), zup_at]
    exact src _ _ (by decide) (by decide)
  · rw [zup_at]
    exact src _ _ (by decide) (by decide)
  · refine Pd6.fr (fun p hp => ?_)
    have : ∀ p ∈ cPLb, ¬ (p.1 = 3 ∧ (p.2.1 = 5 ∨ p.2.1 = 6)) := by decide +kernel
    have := this p hp
    rw [zup_ne (by omega), zup_ne (by omega)]
  · rw [U a j (by omega), G a j (by omega)]
    exact F0 a j (by omega)
theorem tap_i2 {n : Nat} {h : yH} (Pd : cPb 3000 h) (Ps : cPb 0 h) (hb : 0 ≤ h 4 1 ∧ h 4 1 ≤ 600) : yR (f_X8_copyFrom_i2 n [3004, 4] h) (fun _ h1 => h1 3004 1 = h 4 1 ∧ (∀ i : Nat, (i : Int) < h 4 1 → h1 3005 i = h 5 i) ∧ ∀ a j, ¬ a = 3005 → ¬ (a = 3004 ∧ j = 1) → h1 a j = h a j) := by
  refine yR.e e_X8_copyFrom_i2 ?_
  refine yR.g (Ps.p (a := 4) (j := 0) (v := 5) (by decide)) ?_
  refine yR.g (Pd.p (a := 4) (j := 0) (v := 5) (by decide)) ?_
  refine yR.g (by omega) ?_
  refine yR.h ?_
  have e1 : zcy h 3005 5 0 0 (h 4 1).toNat 4 1 = h 4 1 := by rw [zcy_app, if_neg (by omega)]
  refine yR.g (by rw [e1]; exact hb) ?_
  refine yR.s ⟨by rw [zup_at, e1], fun i hi => by rw [zup_ne (by omega), zcy_app, if_pos (by omega), show 0 + (i - 0) = i by omega], fun a j w1 w2 => by rw [zup_ne w2, zcy_app, if_neg (by omega)]⟩
set_option maxRecDepth 10000 in
theorem tcp_i2 {n : Nat} {h : yH} (hn : 3 ≤ n) (Pd : cPb 3000 h) (Ps : cPb 0 h) (hb : cBb 0 h) : yR (f_X9_copyFrom_i2 n [3003, 3] h) (fun _ h2 => tcR 3000 0 h h2) := by
  have hds : 3000 + 100 ≤ 0 ∨ 0 + 100 ≤ 3000 := by decide
  refine yR.e e_X9_copyFrom_i2 ?_
  refine yR.g (Pd.p (a := 3) (j := 0) (v := 4) (by decide)) ?_
  refine yR.g (Ps.p (a := 3) (j := 0) (v := 4) (by decide)) ?_
  refine yR.b (tap_i2 (n := n) Pd Ps hb.1) (fun _ h1 ⟨t1, t2, t3⟩ => ?_)
  have Pd1 : cPb 3000 h1 := Pd.fr (fun p hp => t3 _ _ (by
    have : ∀ p ∈ cPLb, p.1 ≠ 5 := by decide +kernel
    have := this p hp
    omega) (by
    have : ∀ p ∈ cPLb, ¬ (p.1 = 4 ∧ p.2.1 = 1) := by decide +kernel
    have := this p hp
    omega))
  have Fs1 : ∀ a j, 3 ≤ a → a ≤ 0 + 79 → h1 a j = h a j := fun a j w1 w2 => t3 a j (by omega) (by omega)
  have Ps1 : cPb 0 h1 := Ps.fr (fun p hp => Fs1 _ _ (by have := cPLb_b p hp; omega) (by have := cPLb_b p hp; omega))
  refine yR.g (Ps1.p (a := 3) (j := 1) (v := 6) (by decide)) ?_
  refine yR.g (Pd1.p (a := 3) (j := 1) (v := 6) (by decide)) ?_
  refine yR.h ?_
  have z5 : ∀ a j, zcy h1 3006 6 0 0 3 a j = if a = 3006 ∧ j < 3 then h1 6 j else h1 a j := fun a j => by
    rw [zcy_app]
    by_cases w : a = 3006 ∧ j < 3
    · rw [if_pos (by omega), if_pos w, show 0 + (j - 0) = j by omega]
    · rw [if_neg (by omega), if_neg w]
  generalize zcy h1 3006 6 0 0 3 = g0 at z5 ⊢
  have Pd0 : cPb 3000 g0 := Pd1.fr (fun p hp => by rw [z5, if_neg (by
    have : ∀ p ∈ cPLb, p.1 ≠ 6 := by decide +kernel
    have := this p hp
    omega)])
  have F0 : ∀ a j, ¬ (3003 ≤ a ∧ a ≤ 3000 + 19) → g0 a j = h a j := fun a j w => by
    rw [z5, if_neg (by omega)]
    exact t3 a j (by omega) (by omega)
  have Ps0 : cPb 0 g0 := Ps.fr (fun p hp => F0 _ _ (by have := cPLb_b p hp; omega))
  have B0 : cBb 0 g0 := hb.fr (fun a j w1 w2 => F0 a j (by omega))
  obtain ⟨n, rfl⟩ : ∃ n', n = n' + 3 := ⟨n - 3, by omega⟩
  refine yR.e e_X9_copyFrom_i2_27 ?_
  refine yR.t (by decide) ?_
  refine yR.g (Pd0.p (a := 3) (j := 2) (v := 7) (by decide)) ?_
  refine yR.g (by decide) ?_
  refine yR.g (Pd0.p (a := 7) (j := 0) (v := 20) (by decide)) ?_
  refine yR.g (Ps0.p (a := 3) (j := 2) (v := 7) (by decide)) ?_
  refine yR.g (by decide) ?_
  refine yR.g (Ps0.p (a := 7) (j := 0) (v := 20) (by decide)) ?_
  refine yR.b (stepS (d := 3000) (s := 0) (i := 0) hds (by decide) Pd0 Ps0 B0) (fun _ g1 ⟨r1, F1, Pd1, Ps1, B1⟩ => ?_)
  refine yR.g (Pd1.p (a := 3) (j := 3) (v := 8) (by decide)) ?_
  refine yR.g (by decide) ?_
  refine yR.g (Pd1.p (a := 8) (j := 0) (v := 40) (by decide)) ?_
  refine yR.g (Ps1.p (a := 3) (j := 3) (v := 8) (by decide)) ?_
  refine yR.g (by decide) ?_
  refine yR.g (Ps1.p (a := 8) (j := 0) (v := 40) (by decide)) ?_
  refine yR.b (stepD (d := 3000) (s := 0) (i := 0) hds (by decide) Pd1 Ps1 B1) (fun _ g2 ⟨r2, F2, Pd2, Ps2, B2⟩ => ?_)
  refine yR.g (Pd2.p (a := 3) (j := 4) (v := 9) (by decide)) ?_
  refine yR.g (by decide) ?_
  refine yR.g (Pd2.p (a := 9) (j := 0) (v := 60) (by decide)) ?_
  refine yR.g (Ps2.p (a := 3) (j := 4) (v := 9) (by decide)) ?_
  refine yR.g (by decide) ?_
  refine yR.g (Ps2.p (a := 9) (j := 0) (v := 60) (by decide)) ?_
  refine yR.b (stepQ (d := 3000) (s := 0) (i := 0) hds (by decide) Pd2 Ps2 B2) (fun _ g3 ⟨r3, F3, Pd3, Ps3, B3⟩ => ?_)
  refine yR.g (by decide) ?_
  refine yR.e e_X9_copyFrom_i2_27 ?_
  refine yR.t (by decide) ?_
  refine yR.g (Pd3.p (a := 3) (j := 2) (v := 7) (by decide)) ?_
  refine yR.g (by decide) ?_
  refine yR.g (Pd3.p (a := 7) (j := 1) (v := 30) (by decide)) ?_
  refine yR.g (Ps3.p (a := 3) (j := 2) (v := 7) (by decide)) ?_
  refine yR.g (by decide) ?_
  refine yR.g (Ps3.p (a := 7) (j := 1) (v := 30) (by decide)) ?_
  refine yR.b (stepS (d := 3000) (s := 0) (i := 1) hds (by decide) Pd3 Ps3 B3) (fun _ g4 ⟨r4, F4, Pd4, Ps4, B4⟩ => ?_)
  refine yR.g (Pd4.p (a := 3) (j := 3) (v := 8) (by decide)) ?_
  refine yR.g (by decide) ?_
  refine yR.g (Pd4.p (a := 8) (j := 1) (v := 50) (by decide)) ?_
  refine yR.g (Ps4.p (a := 3) (j := 3) (v := 8) (by decide)) ?_
  refine yR.g (by decide) ?_
  refine yR.g (Ps4.p (a := 8) (j := 1) (v := 50) (by decide)) ?_
  refine yR.b (stepD (d := 3000) (s := 0) (i := 1) hds (by decide) Pd4 Ps4 B4) (fun _ g5 ⟨r5, F5, Pd5, Ps5, B5⟩ => ?_)
  refine yR.g (Pd5.p (a := 3) (j := 4) (v := 9) (by decide)) ?_
  refine yR.g (by decide) ?_
  refine yR.g (Pd5.p (a := 9) (j := 1) (v := 70) (by decide)) ?_
  refine yR.g (Ps5.p (a := 3) (j := 4) (v := 9) (by decide)) ?_
  refine yR.g (by decide) ?_
  refine yR.g (Ps5.p (a := 9) (j := 1) (v := 70) (by decide)) ?_
  refine yR.b (stepQ (d := 3000) (s := 0) (i := 1) hds (by decide) Pd5 Ps5 B5) (fun _ g6 ⟨r6, F6, Pd6, Ps6, B6⟩ => ?_)
  refine yR.g (by decide) ?_
  refine yR.e e_X9_copyFrom_i2_27 ?_
  refine yR.f (by decide) ?_
  refine yR.s ?_
  have G : ∀ a j, ¬ (3000 + 20 ≤ a ∧ a ≤ 3000 + 79) → g6 a j = g0 a j := fun a j w => by
    rw [F6 a j (by omega), F5 a j (by omega), F4 a j (by omega), F3 a j (by omega), F2 a j (by omega), F1 a j (by omega)]
  have U : ∀ a j, ¬ (a = 3003) → zup (zup g6 3003 5 (g6 3 5)) 3003 6 (g6 3 6) a j = g6 a j := fun a j w => by rw [zup_ne (by omega), zup_ne (by omega)]
  have src : ∀ a j, 3 ≤ a → a ≤ 0 + 79 → g6 a j = h a j := fun a j w1 w2 => (G a j (by omega)).trans (F0 a j (by omega))
  refine ⟨by rw [U _ _ (by omega), G _ _ (by omega), z5, if_neg (by omega)]; exact t1, fun i hi => by rw [U _ _ (by omega), G _ _ (by omega), z5, if_neg (by omega)]; exact t2 i hi, fun j hj => by rw [U _ _ (by omega), G _ _ (by omega), z5, if_pos (by omega)]; exact Fs1 _ _ (by decide) (by decide), fun i hi t ht => ?_, fun i hi t ht => ?_, fun i hi t ht => ?_, ?_, ?_, ?_, fun a j w => ?_⟩
  · rcases (show i = 0 ∨ i = 1 by omega) with rfl | rfl
    · exact cS.at (b := 3000 + 20 + 10 * 0) (fun a j w1 w2 => by rw [U a j (by omega), F6 a j (by omega), F5 a j (by omega), F4 a j (by omega), F3 a j (by omega), F2 a j (by omega)]) (r1 t (cS.at (fun a j w1 w2 => by rw [F0 a j (by omega)]) ht))
    · exact cS.at (b := 3000 + 20 + 10 * 1) (fun a j w1 w2 => by rw [U a j (by omega), F6 a j (by omega), F5 a j (by omega)]) (r4 t (cS.at (fun a j w1 w2 => by rw [F3 a j (by omega), F2 a j (by omega), F1 a j (by omega), F0 a j (by omega)]) ht))
  · rcases (show i = 0 ∨ i = 1 by omega) with rfl | rfl
    · exact cD.at (b := 3000 + 40 + 10 * 0) (fun a j w1 w2 => by rw [U a j (by omega), F6 a j (by omega), F5 a j (by omega), F4 a j (by omega), F3 a j (by omega)]) (r2 t (cD.at (fun a j w1 w2 => by rw [F1 a j (by omega), F0 a j (by omega)]) ht))
    · exact cD.at (b := 3000 + 40 + 10 * 1) (fun a j w1 w2 => by rw [U a j (by omega), F6 a j (by omega)]) (r5 t (cD.at (fun a j w1 w2 => by rw [F4 a j (by omega), F3 a j (by omega), F2 a j (by omega), F1 a j (by omega), F0 a j (by omega)]) ht))
  · rcases (show i = 0 ∨ i = 1 by omega) with rfl | rfl
    · exact cQ.at (b := 3000 + 60 + 10 * 0) (fun a j w1 w2 => by rw [U a j (by omega), F6 a j (by omega), F5 a j (by omega), F4 a j (by omega)]) (r3 t (cQ.at (fun a j w1 w2 => by rw [F2 a j (by omega), F1 a j (by omega), F0 a j (by omega)]) ht))
    · exact cQ.at (b := 3000 + 60 + 10 * 1) (fun a j w1 w2 => by rw [U a j (by omega)]) (r6 t (cQ.at (fun a j w1 w2 => by rw [F5 a j (by omega), F4 a j (by omega), F3 a j (by omega), F2 a j (by omega), F1 a j (by omega), F0 a j (by omega)]) ht))
  · rw [zup_ne (by omega), zup_at]
    exact src _ _ (by decide) (by decide)
  · rw [zup_at]
    exact src _ _ (by decide) (by decide)
  · refine Pd6.fr (fun p hp => ?_)
    have : ∀ p ∈ cPLb, ¬ (p.1 = 3 ∧ (p.2.1 = 5 ∨ p.2.1 = 6)) := by decide +kernel
    have := this p hp
    rw [zup_ne (by omega), zup_ne (by omega)]
  · rw [U a j (by omega), G a j (by omega)]
    exact F0 a j (by omega)
theorem tap_a2 {n : Nat} {h : yH} (Pd : cPb 0 h) (Ps : cPb 3000 h) (hb : 0 ≤ h 3004 1 ∧ h 3004 1 ≤ 600) : yR (f_X8_copyFrom_a2 n [4, 3004] h) (fun _ h1 => h1 4 1 = h 3004 1 ∧ (∀ i : Nat, (i : Int) < h 3004 1 → h1 5 i = h 3005 i) ∧ ∀ a j, ¬ a = 5 → ¬ (a = 4 ∧ j = 1) → h1 a j = h a j) := by
  refine yR.e e_X8_copyFrom_a2 ?_
  refine yR.g (Ps.p (a := 4) (j := 0) (v := 5) (by decide)) ?_
  refine yR.g (Pd.p (a := 4) (j := 0) (v := 5) (by decide)) ?_
  refine yR.g (by omega) ?_
  refine yR.h ?_
  have e1 : zcy h 5 3005 0 0 (h 3004 1).toNat 3004 1 = h 3004 1 := by rw [zcy_app, if_neg (by omega)]
  refine yR.g (by rw [e1]; exact hb) ?_
  refine yR.s ⟨by rw [zup_at, e1], fun i hi => by rw [zup_ne (by omega), zcy_app, if_pos (by omega), show 0 + (i - 0) = i by omega], fun a j w1 w2 => by rw [zup_ne w2, zcy_app, if_neg (by omega)]⟩
set_option maxRecDepth 10000 in
theorem tcp_a2 {n : Nat} {h : yH} (hn : 3 ≤ n) (Pd : cPb 0 h) (Ps : cPb 3000 h) (hb : cBb 3000 h) : yR (f_X9_copyFrom_a2 n [3, 3003] h) (fun _ h2 => tcR 0 3000 h h2) := by
  have hds : 0 + 100 ≤ 3000 ∨ 3000 + 100 ≤ 0 := by decide
  refine yR.e e_X9_copyFrom_a2 ?_
  refine yR.g (Pd.p (a := 3) (j := 0) (v := 4) (by decide)) ?_
  refine yR.g (Ps.p (a := 3) (j := 0) (v := 4) (by decide)) ?_
  refine yR.b (tap_a2 (n := n) Pd Ps hb.1) (fun _ h1 ⟨t1, t2, t3⟩ => ?_)
  have Pd1 : cPb 0 h1 := Pd.fr (fun p hp => t3 _ _ (by
    have : ∀ p ∈ cPLb, p.1 ≠ 5 := by decide +kernel
    have := this p hp
    omega) (by
    have : ∀ p ∈ cPLb, ¬ (p.1 = 4 ∧ p.2.1 = 1) := by decide +kernel
    have := this p hp
    omega))
  have Fs1 : ∀ a j, 3003 ≤ a → a ≤ 3000 + 79 → h1 a j = h a j := fun a j w1 w2 => t3 a j (by omega) (by omega)
  have Ps1 : cPb 3000 h1 := Ps.fr (fun p hp => Fs1 _ _ (by have := cPLb_b p hp; omega) (by have := cPLb_b p hp; omega))
  refine yR.g (Ps1.p (a := 3) (j := 1) (v := 6) (by decide)) ?_
  refine yR.g (Pd1.p (a := 3) (j := 1) (v := 6) (by decide)) ?_
  refine yR.h ?_
  have z5 : ∀ a j, zcy h1 6 3006 0 0 3 a j = if a = 6 ∧ j < 3 then h1 3006 j else h1 a j := fun a j => by
    rw [zcy_app]
    by_cases w : a = 6 ∧ j < 3
    · rw [if_pos (by omega), if_pos w, show 0 + (j - 0) = j by omega]
    · rw [if_neg (by omega), if_neg w]
  generalize zcy h1 6 3006 0 0 3 = g0 at z5 ⊢
  have Pd0 : cPb 0 g0 := Pd1.fr (fun p hp => by rw [z5, if_neg (by
    have : ∀ p ∈ cPLb, p.1 ≠ 6 := by decide +kernel
    have := this p hp
    omega)])
  have F0 : ∀ a j, ¬ (3 ≤ a ∧ a ≤ 0 + 19) → g0 a j = h a j := fun a j w => by
    rw [z5, if_neg (by omega)]
    exact t3 a j (by omega) (by omega)
  have Ps0 : cPb 3000 g0 := Ps.fr (fun p hp => F0 _ _ (by have := cPLb_b p hp; omega))
  have B0 : cBb 3000 g0 := hb.fr (fun a j w1 w2 => F0 a j (by omega))
  obtain ⟨n, rfl⟩ : ∃ n', n = n' + 3 := ⟨n - 3, by omega⟩
  refine yR.e e_X9_copyFrom_a2_27 ?_
  refine yR.t (by decide) ?_
  refine yR.g (Pd0.p (a := 3) (j := 2) (v := 7) (by decide)) ?_
  refine yR.g (by decide) ?_
  refine yR.g (Pd0.p (a := 7) (j := 0) (v := 20) (by decide)) ?_
  refine yR.g (Ps0.p (a := 3) (j := 2) (v := 7) (by decide)) ?_
  refine yR.g (by decide) ?_
  refine yR.g (Ps0.p (a := 7) (j := 0) (v := 20) (by decide)) ?_
  refine yR.b (stepS (d := 0) (s := 3000) (i := 0) hds (by decide) Pd0 Ps0 B0) (fun _ g1 ⟨r1, F1, Pd1, Ps1, B1⟩ => ?_)
  refine yR.g (Pd1.p (a := 3) (j := 3) (v := 8) (by decide)) ?_
  refine yR.g (by decide) ?_
  refine yR.g (Pd1.p (a := 8) (j := 0) (v := 40) (by decide)) ?_
  refine yR.g (Ps1.p (a := 3) (j := 3) (v := 8) (by decide)) ?_
  refine yR.g (by decide) ?_
  refine yR.g (Ps1.p (a := 8) (j := 0) (v := 40) (by decide)) ?_
  refine yR.b (stepD (d := 0) (s := 3000) (i := 0) hds (by decide) Pd1 Ps1 B1) (fun _ g2 ⟨r2, F2, Pd2, Ps2, B2⟩ => ?_)
  refine yR.g (Pd2.p (a := 3) (j := 4) (v := 9) (by decide)) ?_
  refine yR.g (by decide) ?_
  refine yR.g (Pd2.p (a := 9) (j := 0) (v := 60) (by decide)) ?_
  refine yR.g (Ps2.p (a := 3) (j := 4) (v := 9) (by decide)) ?_
  refine yR.g (by decide) ?_
  refine yR.g (Ps2.p (a := 9) (j := 0) (v := 60) (by decide)) ?_
  refine yR.b (stepQ (d := 0) (s := 3000) (i := 0) hds (by decide) Pd2 Ps2 B2) (fun _ g3 ⟨r3, F3, Pd3, Ps3, B3⟩ => ?_)
  refine yR.g (by decide) ?_
  refine yR.e e_X9_copyFrom_a2_27 ?_
  refine yR.t (by decide) ?_
  refine yR.g (Pd3.p (a := 3) (j := 2) (v := 7) (by decide)) ?_
  refine yR.g (by decide) ?_
  refine yR.g (Pd3.p (a := 7) (j := 1) (v := 30) (by decide)) ?_
  refine yR.g (Ps3.p (a := 3) (j := 2) (v := 7) (by decide)) ?_
  refine yR.g (by decide) ?_
  refine yR.g (Ps3.p (a := 7) (j := 1) (v := 30) (by decide)) ?_
  refine yR.b (stepS (d := 0) (s := 3000) (i := 1) hds (by decide) Pd3 Ps3 B3) (fun _ g4 ⟨r4, F4, Pd4, Ps4, B4⟩ => ?_)
  refine yR.g (Pd4.p (a := 3) (j := 3) (v := 8) (by decide)) ?_
  refine yR.g (by decide) ?_
  refine yR.g (Pd4.p (a := 8) (j := 1) (v := 50) (by decide)) ?_
  refine yR.g (Ps4.p (a := 3) (j := 3) (v := 8) (by decide)) ?_
  refine yR.g (by decide) ?_
  refine yR.g (Ps4.p (a := 8) (j := 1) (v := 50) (by decide)) ?_
  refine yR.b (stepD (d := 0) (s := 3000) (i := 1) hds (by decide) Pd4 Ps4 B4) (fun _ g5 ⟨r5, F5, Pd5, Ps5, B5⟩ => ?_)
  refine yR.g (Pd5.p (a := 3) (j := 4) (v := 9) (by decide)) ?_
  refine yR.g (by decide) ?_
  refine yR.g (Pd5.p (a := 9) (j := 1) (v := 70) (by decide)) ?_
  refine yR.g (Ps5.p (a := 3) (j := 4) (v := 9) (by decide)) ?_
  refine yR.g (by decide) ?_
  refine yR.g (Ps5.p (a := 9) (j := 1) (v := 70) (by decide)) ?_
  refine yR.b (stepQ (d := 0) (s := 3000) (i := 1) hds (by decide) Pd5 Ps5 B5) (fun _ g6 ⟨r6, F6, Pd6, Ps6, B6⟩ => ?_)
  refine yR.g (by decide) ?_
  refine yR.e e_X9_copyFrom_a2_27 ?_
  refine yR.f (by decide) ?_
  refine yR.s ?_
  have G : ∀ a j, ¬ (0 + 20 ≤ a ∧ a ≤ 0 + 79) → g6 a j = g0 a j := fun a j w => by
    rw [F6 a j (by omega), F5 a j (by omega), F4 a j (by omega), F3 a j (by omega), F2 a j (by omega), F1 a j (by omega)]
  have U : ∀ a j, ¬ (a = 3) → zup (zup g6 3 5 (g6 3003 5)) 3 6 (g6 3003 6) a j = g6 a j := fun a j w => by rw [zup_ne (by omega), zup_ne (by omega)]
  have src : ∀ a j, 3003 ≤ a → a ≤ 3000 + 79 → g6 a j = h a j := fun a j w1 w2 => (G a j (by omega)).trans (F0 a j (by omega))
  refine ⟨by rw [U _ _ (by omega), G _ _ (by omega), z5, if_neg (by omega)]; exact t1, fun i hi => by rw [U _ _ (by omega), G _ _ (by omega), z5, if_neg (by omega)]; exact t2 i hi, fun j hj => by rw [U _ _ (by omega), G _ _ (by omega), z5, if_pos (by omega)]; exact Fs1 _ _ (by decide) (by decide), fun i hi t ht => ?_, fun i hi t ht => ?_, fun i hi t ht => ?_, ?_, ?_, ?_, fun a j w => ?_⟩
  · rcases (show i = 0 ∨ i = 1 by omega) with rfl | rfl
    · exact cS.at (b := 0 + 20 + 10 * 0) (fun a j w1 w2 => by rw [U a j (by omega), F6 a j (by omega), F5 a j (by omega), F4 a j (by omega), F3 a j (by omega), F2 a j (by omega)]) (r1 t (cS.at (fun a j w1 w2 => by rw [F0 a j (by omega)]) ht))
    · exact cS.at (b := 0 + 20 + 10 * 1) (fun a j w1 w2 => by rw [U a j (by omega), F6 a j (by omega), F5 a j (by omega)]) (r4 t (cS.at (fun a j w1 w2 => by rw [F3 a j (by omega), F2 a j (by omega), F1 a j (by omega), F0 a j (by omega)]) ht))
  · rcases (show i = 0 ∨ i = 1 by omega) with rfl | rfl
    · exact cD.at (b := 0 + 40 + 10 * 0) (fun a j w1 w2 => by rw [U a j (by omega), F6 a j (by omega), F5 a j (by omega), F4 a j (by omega), F3 a j (by omega)]) (r2 t (cD.at (fun a j w1 w2 => by rw [F1 a j (by omega), F0 a j (by omega)]) ht))
    · exact cD.at (b := 0 + 40 + 10 * 1) (fun a j w1 w2 => by rw [U a j (by omega), F6 a j (by omega)]) (r5 t (cD.at (fun a j w1 w2 => by rw [F4 a j (by omega), F3 a j (by omega), F2 a j (by omega), F1 a j (by omega), F0 a j (by omega)]) ht))
  · rcases (show i = 0 ∨ i = 1 by omega) with rfl | rfl
    · exact cQ.at (b := 0 + 60 + 10 * 0) (fun a j w1 w2 => by rw [U a j (by omega), F6 a j (by omega), F5 a j (by omega), F4 a j (by omega)]) (r3 t (cQ.at (fun a j w1 w2 => by rw [F2 a j (by omega), F1 a j (by omega), F0 a j (by omega)]) ht))
    · exact cQ.at (b := 0 + 60 + 10 * 1) (fun a j w1 w2 => by rw [U a j (by omega)]) (r6 t (cQ.at (fun a j w1 w2 => by rw [F5 a j (by omega), F4 a j (by omega), F3 a j (by omega), F2 a j (by omega), F1 a j (by omega), F0 a j (by omega)]) ht))
  · rw [zup_ne (by omega), zup_at]
    exact src _ _ (by decide) (by decide)
  · rw [zup_at]
    exact src _ _ (by decide) (by decide)
  · refine Pd6.fr (fun p hp => ?_)
    have : ∀ p ∈ cPLb, ¬ (p.1 = 3 ∧ (p.2.1 = 5 ∨ p.2.1 = 6)) := by decide +kernel
    have := this p hp
    rw [zup_ne (by omega), zup_ne (by omega)]
  · rw [U a j (by omega), G a j (by omega)]
    exact F0 a j (by omega)
