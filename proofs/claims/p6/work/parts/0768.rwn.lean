/-! winds: the reference -/
def hvn (s : Nat) (t : Nat → Int) (g : yH) : Prop := sH s t g ∧ g 35 24 = t 0 ∧ g 35 25 = t 1 ∧ g 35 28 = t 6 ∧ ∀ i : Nat, (i : Int) < t 6 → g 10 i = t (31 + 3 * i) ∧ g 11 i = t (32 + 3 * i)
theorem hvn.fr {s : Nat} {t : Nat → Int} {g g2 : yH} (H : hvn s t g) (e : ∀ a j, ¬ (a = 35 ∧ (j = 26 ∨ j = 27)) → g2 a j = g a j) : hvn s t g2 := by
  obtain ⟨h1, h2, h3, h4, h5⟩ := H
  refine ⟨h1.fr (fun a j w => e a j (fun c => ?_)), by rw [e _ _ (by omega)]; exact h2, by rw [e _ _ (by omega)]; exact h3, by rw [e _ _ (by omega)]; exact h4, fun i hi => by rw [e _ _ (by omega), e _ _ (by omega)]; exact h5 i hi⟩
  rcases w with w | ⟨-, w | w⟩
  · omega
  · omega
  · have : ∀ j ∈ rQs, ¬ (j = 26 ∨ j = 27) := by decide
    exact this j w c.2
theorem hvn.at {s k : Nat} {t : Nat → Int} {g : yH} (H : hvn s t g) (h26 : g 35 26 = ((k % 4 : Nat) : Int)) (h27 : g 35 27 = ((k / 4 : Nat) : Int)) : hv s t (wU t k) g := by
  obtain ⟨h1, h2, h3, h4, h5⟩ := H
  refine ⟨h1, wU_ne (by omega), by rw [wU_ne (by omega)]; exact h2, by rw [wU_ne (by omega)]; exact h3, by rw [wU_2]; exact h26, by rw [wU_3]; exact h27, by rw [wU_ne (by omega)]; exact h4, fun i hi => ?_⟩
  rw [wU_ne (by omega)] at hi
  rw [wU_ne (by omega), wU_ne (by omega)]
  exact h5 i hi
theorem couR_l {s k : Nat} {x1 x2 : Int} {t u : Nat → Int} {g : yH} {r : Nat × Int} (H : hv s t u g) (hW : tW0 u) (hk : k < 16) : ∀ (m b n : Nat) (a : Int), 7 - b = m → (b : Int) ≤ u 6 → m + 20 ≤ n → 0 ≤ a ∧ a ≤ 6 * b →
    ∃ n2, n ≤ n2 + m ∧ n2 ≤ n ∧ xl_X12_winds n 72 [35, x1, x2, (r.1 : Int), r.2, (k : Int), a, (b : Int)] g = xl_X12_winds n2 32 [35, x1, x2, ((if r.2 < cplA u m b a then (k, cplA u m b a) else r).1 : Int), (if r.2 < cplA u m b a then (k, cplA u m b a) else r).2, ((k + 1 : Nat) : Int)] g := by
  have w6 := hW.wd.2.2.2.2
  intro m
  induction m with
  | zero => intro b n a e1 e2; omega
  | succ m ih =>
    intro b n a e1 e2 e3 ha
    obtain ⟨n, rfl⟩ : ∃ n', n = n' + 1 := ⟨n - 1, by omega⟩
    have q := nHr_b (u := u) (b := b)
    by_cases c : (b : Int) < u 6
    · have eA : cplA u (m + 1) b a = cplA u m (b + 1) (a + nHr u b) := if_pos c
      obtain ⟨n2, f1, f2, f3⟩ := ih (b + 1) n (a + nHr u b) (by omega) (by omega) (by omega) (by omega)
      refine ⟨n2, by omega, by omega, ?_⟩
      rw [eA, ← f3, e_X12_winds_72, H.2.2.2.2.2.2.1, if_pos c, hearersOf_e (by omega) H hW c, xb_some, ones_e (by omega) (hrs_b hW), xb_some, show bcn (hrs u b) = nHr u b from rfl, xg_pos (by omega), xg_pos (by omega), show (b : Int) + 1 = ((b + 1 : Nat) : Int) by omega]
    · have eA : cplA u (m + 1) b a = a := if_neg c
      refine ⟨n, by omega, by omega, ?_⟩
      rw [eA, e_X12_winds_72, H.2.2.2.2.2.2.1, if_neg c]
      by_cases c2 : r.2 < a
      · rw [if_pos c2, if_pos c2, e_X12_greater, if_neg (by omega), xb_some, xg_pos (by omega), show (k : Int) + 1 = ((k + 1 : Nat) : Int) by omega]
      · rw [if_neg c2, if_neg c2, e_X12_greater]
        by_cases c3 : a < r.2
        · rw [if_pos c3, xb_some, xg_pos (by omega), show (k : Int) + 1 = ((k + 1 : Nat) : Int) by omega]
        · rw [if_neg c3, xb_some, xg_pos (by omega), show a = r.2 by omega, show (k : Int) + 1 = ((k + 1 : Nat) : Int) by omega]
theorem yqF16 : ∀ k : Fin 16, yari 3 (k.val : Int) 4 = ((k.val / 4 : Nat) : Int) ∧ yari 4 (k.val : Int) 4 = ((k.val % 4 : Nat) : Int) := by decide +kernel
theorem stpR {s k n : Nat} {x1 x2 : Int} {t : Nat → Int} {g : yH} {r : Nat × Int} (H : hvn s t g) (hW : tW0 t) (hk : k < 16) (hk2 : k = 0 ∨ 3 < k) (hn : 28 ≤ n) :
    ∃ g2 n2, n ≤ n2 + 8 ∧ n2 ≤ n ∧ xl_X12_winds n 32 [35, x1, x2, (r.1 : Int), r.2, (k : Int)] g = xl_X12_winds n2 32 [35, x1, x2, ((wS t r k).1 : Int), (wS t r k).2, ((k + 1 : Nat) : Int)] g2 ∧ hvn s t g2 ∧ ∀ a j, ¬ (a = 35 ∧ (j = 26 ∨ j = 27)) → g2 a j = g a j := by
  obtain ⟨n, rfl⟩ : ∃ n', n = n' + 1 := ⟨n - 1, by omega⟩
  obtain ⟨q3, q4⟩ := yqF16 ⟨k, hk⟩
  simp only at q3 q4
  have key : xl_X12_winds (n + 1) 32 [35, x1, x2, (r.1 : Int), r.2, (k : Int)] g = xl_X12_winds n 72 [35, x1, x2, (r.1 : Int), r.2, (k : Int), 0, ((0 : Nat) : Int)] (zup (zup g 35 27 ((k / 4 : Nat) : Int)) 35 26 ((k % 4 : Nat) : Int)) := by
    rw [e_X12_winds_32, if_pos (by omega)]
    by_cases c : (k : Int) = 0
    · rw [if_pos c, e_X12_winds_50, q3, q4]
      rfl
    · rw [if_neg c, if_pos (by omega), e_X12_winds_50, q3, q4]
      rfl
  have fr : ∀ a j, ¬ (a = 35 ∧ (j = 26 ∨ j = 27)) → (zup (zup g 35 27 ((k / 4 : Nat) : Int)) 35 26 ((k % 4 : Nat) : Int)) a j = g a j := fun a j w => by
    rw [zup_ne (by omega), zup_ne (by omega)]
  have H2 := H.fr fr
  have H3 : hv s t (wU t k) (zup (zup g 35 27 ((k / 4 : Nat) : Int)) 35 26 ((k % 4 : Nat) : Int)) := H2.at (zup_at _ _ _ _) (by rw [zup_ne (by omega), zup_at])
  obtain ⟨n2, f1, f2, f3⟩ := couR_l (x1 := x1) (x2 := x2) (r := r) H3 (wU_W hW hk) hk 7 0 n 0 rfl (wU_W hW hk).wd.2.2.2.2.1 (by omega) (by omega)
  exact ⟨_, n2, by omega, by omega, key.trans f3, H2, fr⟩
theorem itR {s : Nat} {x1 x2 : Int} {t : Nat → Int} (hW : tW0 t) : ∀ (m k n : Nat) (r : Nat × Int) (g : yH), m + k = 16 → 3 < k → 8 * m + 28 ≤ n → hvn s t g →
    ∃ g2 n2, 28 ≤ n2 ∧ xl_X12_winds n 32 [35, x1, x2, (r.1 : Int), r.2, (k : Int)] g = xl_X12_winds n2 32 [35, x1, x2, ((wFd t m k r).1 : Int), (wFd t m k r).2, 16] g2 ∧ hvn s t g2 ∧ ∀ a j, ¬ (a = 35 ∧ (j = 26 ∨ j = 27)) → g2 a j = g a j := by
  intro m
  induction m with
  | zero =>
    intro k n r g e1 e2 e3 H
    refine ⟨g, n, by omega, ?_, H, fun _ _ _ => rfl⟩
    rw [show k = 16 by omega]
    rfl
  | succ m ih =>
    intro k n r g e1 e2 e3 H
    obtain ⟨g2, n2, f1, f2, f3, f4, f5⟩ := stpR (x1 := x1) (x2 := x2) (r := r) (n := n) H hW (show k < 16 by omega) (Or.inr e2) (by omega)
    obtain ⟨g3, n3, k1, k2, k3, k4⟩ := ih (k + 1) n2 (wS t r k) g2 (by omega) (by omega) (by omega) f4
    exact ⟨g3, n3, k1, f3.trans k2, k3, fun a j w => (k4 a j w).trans (f5 a j w)⟩
/-- what winds answers -/
def wdV (t : Nat → Int) (w : Int) : Int := if w = 0 then (((wAll t).1 / 4 : Nat) : Int) else if w = 1 then (((wAll t).1 % 4 : Nat) : Int) else (wAll t).2
theorem wndR_l {s n : Nat} {x1 w : Int} {t : Nat → Int} {g : yH} (hW : tW0 t) (H : hvn s t g) (hn : 150 ≤ n) : yR (xl_X12_winds n 32 [35, x1, w, 0, -1, 0] g) (fun v g2 => v = wdV t w ∧ ∀ a j, ¬ (a = 35 ∧ (j = 26 ∨ j = 27)) → g2 a j = g a j) := by
  obtain ⟨g1, n1, a1, a2, a3, a4, a5⟩ := stpR (x1 := x1) (x2 := w) (r := (0, -1)) (n := n) (k := 0) H hW (by decide) (Or.inl rfl) (by omega)
  refine yR.e (r' := xl_X12_winds n1 32 [35, x1, w, ((wS t (0, -1) 0).1 : Int), (wS t (0, -1) 0).2, ((0 + 1 : Nat) : Int)] g1) a3 ?_
  obtain ⟨n1, rfl⟩ : ∃ n', n1 = n' + 3 := ⟨n1 - 3, by omega⟩
  obtain ⟨g2, n2, b1, b2, b3, b4⟩ := itR (x1 := x1) (x2 := w) hW 12 4 n1 (wS t (0, -1) 0) g1 (by decide) (by decide) (by omega) a4
  obtain ⟨n2, rfl⟩ : ∃ n', n2 = n' + 1 := ⟨n2 - 1, by omega⟩
  rw [show ((0 + 1 : Nat) : Int) = 1 from rfl, e_X12_winds_32, if_pos (by decide), if_neg (by decide), if_neg (by decide), xg_pos (by decide), show (1 : Int) + 1 = 2 from rfl, e_X12_winds_32, if_pos (by decide), if_neg (by decide), if_neg (by decide), xg_pos (by decide), show (2 : Int) + 1 = 3 from rfl, e_X12_winds_32, if_pos (by decide), if_neg (by decide), if_neg (by decide), xg_pos (by decide), show (3 : Int) + 1 = ((4 : Nat) : Int) from rfl, b2, show wFd t 12 4 (wS t (0, -1) 0) = wAll t from rfl, e_X12_winds_32, if_neg (by decide)]
  have q := wAll_b (t := t)
  obtain ⟨q3, q4⟩ := yqF16 ⟨(wAll t).1, q.1⟩
  simp only at q3 q4
  have fr : ∀ a j, ¬ (a = 35 ∧ (j = 26 ∨ j = 27)) → g2 a j = g a j := fun a j v => (b4 a j v).trans (a5 a j v)
  rw [q3, q4]
  unfold wdV
  by_cases c0 : w = 0
  · rw [if_pos c0, if_pos c0]
    exact yR.s ⟨rfl, fr⟩
  rw [if_neg c0, if_neg c0]
  by_cases c1 : w = 1
  · rw [if_pos c1, if_pos c1]
    exact yR.s ⟨rfl, fr⟩
  rw [if_neg c1, if_neg c1]
  exact yR.s ⟨rfl, fr⟩
theorem wndC_e {n s : Nat} {w : Int} {t : Nat → Int} {h : yH} (hn : 60 ≤ n) (hP : cP h) (hw : cPw h) (hb : h 6 0 ≤ 2) (hs : (s : Int) < h 6 0) (hS : cS (20 + 10 * s) t h) (hp : cSp (20 + 10 * s) h) (hW : tW0 t) (h2 : 0 ≤ w ∧ w ≤ 2) : yR (f_X11_winds n [1, (s : Int), w] h) (fun v h2 => v = wdV t w ∧ cPw h2 ∧ ∀ a j, a ≠ 150 → ¬ (160 ≤ a ∧ a ≤ 167) → h2 a j = h a j) := by
  obtain ⟨h3, e3, I⟩ := findWind_e (n := n) (b := 20 + 10 * s) hn hw (by omega) hS hp hW (by omega)
  obtain ⟨i1, i2, i3, i4, i5, i6⟩ := I
  have q := wAll_b (t := t)
  have p4 : h3 1 4 = 150 := by rw [i6 _ _ (by omega) (by omega)]; exact hw.1
  rw [e_X11_winds, xg_pos (hP.p (by decide)), findSea_e hP hb, xb_some, if_pos (show 0 ≤ (s : Int) ∧ (s : Int) < h 6 0 by omega), if_neg (by omega), if_neg (by omega), if_neg (by omega), xg_pos hw.1, xg_pos (by omega), show 20 + 10 * (s : Int) = ((20 + 10 * s : Nat) : Int) by omega, e3, xb_some]
  unfold wdV
  obtain ⟨j0, j1⟩ := i5 q.2
  by_cases c2 : w = 2
  · rw [if_pos c2, xg_pos p4, i4, if_neg (by omega), if_neg (by omega)]
    exact yR.s ⟨rfl, ⟨p4, i1, i2⟩, i6⟩
  rw [if_neg c2]
  by_cases c0 : w = 0
  · rw [if_pos c0, xg_pos p4, j0, if_pos c0]
    exact yR.s ⟨rfl, ⟨p4, i1, i2⟩, i6⟩
  rw [if_neg c0, xg_pos p4, j1, if_neg c0, if_pos (by omega)]
  exact yR.s ⟨rfl, ⟨p4, i1, i2⟩, i6⟩
/-- the class's cells beside what is told -/
theorem RR.hf {F : Prop} {h h2 g : yH} (R : RR F h g) (hL : lnI h) (hm : h 4 1 ≤ 600) (e : ∀ a j, a ≤ 114 ∨ 1000 ≤ a → h2 a j = h a j) : RR F h2 g := by
  obtain ⟨hP, gP, R0, RI0⟩ := R
  refine ⟨fun p hp => ?_, gP, R0.fr (fun a j w1 w2 => e a j (by omega)) (fun _ _ _ => rfl) ⟨rfl, rfl, rfl⟩ (fun _ _ _ => rfl) (fun _ _ _ => rfl) (fun _ _ _ => rfl) (fun _ _ _ => rfl) hm, RI0.fr hL (fun a j w => e a j (by omega)) (fun j => e 2 j (by omega)) (fun _ => rfl) (fun _ _ => rfl) (fun _ _ _ _ => rfl) (fun _ _ => rfl) (fun _ _ => rfl) (fun _ _ => rfl) (fun _ _ => rfl)⟩
  have : ∀ p ∈ cPL, p.1 ≤ 114 := by decide +kernel
  rw [e _ _ (Or.inl (this p hp))]
  exact hP p hp
theorem RR_winds {m n : Nat} {x w : Int} {h g : yH} (hn : 60 ≤ n) (hm2 : 160 ≤ m) (R : RR True h g) (hw : cPw h) (hL : lnI h) (hm : h 4 1 ≤ 600) (hq : rQ g) (h4 : ∀ j, j < 12 → 0 ≤ g 4 j ∧ g 4 j ≤ 2) : ∃ v h2 g2, f_X11_winds n [1, x, w] h = some (v, h2) ∧ f_X12_winds m [35, x, w] g = some (v, g2) ∧ (RR True h2 g2 ∧ cPw h2) ∧ ∀ k, h2 2 k = h 2 k := by
  have hP := R.1
  have n0 := R.n6 (j := 0) (by decide)
  have b0 := h4 0 (by decide)
  by_cases c2 : 0 ≤ w ∧ w ≤ 2
  · by_cases c : 0 ≤ x ∧ x < h 6 0
    · obtain ⟨s, rfl⟩ : ∃ s : Nat, x = (s : Int) := ⟨x.toNat, by omega⟩
      obtain ⟨t, a1, a2, a3, a4⟩ := R.sea (s := s) (by omega) (by omega)
      obtain ⟨v, h2, e1, r1, r2, r3⟩ := wndC_e (w := w) hn hP hw (by omega) c.2 a1 a2 a4 c2
      obtain ⟨v5, g5, e5, rv, H⟩ := hand_e (n := m) (s := s) (t := t) (by omega) (c0_q hq) (c0_4 h4) (by rw [zup_ne (by omega)]; omega) (fun j hj => by rw [zup_ne (by omega)]; exact a3 j hj) a4
      subst rv
      obtain ⟨v6, g6, e6, rv6, f6⟩ := wndR_l (x1 := (s : Int)) (w := w) (n := m) a4 (g := g5) ⟨H.1, H.2.1.1, H.2.1.2.1, H.2.1.2.2.2.2.2, H.2.2.1⟩ (by omega)
      have R5 : RR True h g5 := (R.c0 hL hm).hd hL hm H
      have q5 : rQ g5 := H.1.2.2.2
      have q6 : rQ g6 := q5.fr (fun j hj => f6 _ _ (fun c => by
        have : ∀ j ∈ rQs, ¬ (j = 26 ∨ j = 27) := by decide
        exact this j hj c.2))
      have R6 : RR True h g6 := R5.gf hL hm q6.P (fun a j w => f6 a j (by omega))
      refine ⟨v, h2, g6, e1, ?_, ⟨R6.hf hL hm (fun a j w => r3 a j (by omega) (by omega)), r2⟩, fun k => r3 2 k (by omega) (by omega)⟩
      rw [e_X12_winds, in_t c2, xb_some, if_neg (by decide), e5, xb_some, if_neg (by decide), e6, rv6, r1]
    · refine ⟨-1, h, zup g 35 0 0, ?_, ?_, ⟨R.c0 hL hm, hw⟩, fun _ => rfl⟩
      · rw [e_X11_winds, xg_pos (hP.p (by decide)), findSea_e hP (by omega), xb_some, if_neg c, if_pos (by decide)]
      · rw [e_X12_winds, in_t c2, xb_some, if_neg (by decide), hand_n (c0_q hq) (c0_4 h4) (by rw [zup_ne (by omega)]; omega), xb_some, if_pos rfl]
  · refine ⟨-1, h, zup g 35 0 0, ?_, ?_, ⟨R.c0 hL hm, hw⟩, fun _ => rfl⟩
    · rw [e_X11_winds, xg_pos (hP.p (by decide)), findSea_e hP (by omega), xb_some]
      by_cases c : 0 ≤ x ∧ x < h 6 0
      · rw [if_pos c, if_neg (by omega)]
        by_cases c3 : w < 0
        · rw [if_pos c3]
        · rw [if_neg c3, if_pos (by omega)]
      · rw [if_neg c, if_pos (by decide)]
    · rw [e_X12_winds, in_f c2, xb_some, if_pos rfl]
