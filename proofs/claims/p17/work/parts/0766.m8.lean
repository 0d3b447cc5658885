section
/-! far, loud -/
theorem wh_b {u : Nat → Int} (h : tW0 u) : 4 ≤ u 0 * u 1 ∧ u 0 * u 1 ≤ 64 := by
  obtain ⟨h0, h1, -⟩ := h
  have a := Int.mul_le_mul h0.1 h1.1 (by omega) (by omega)
  have b := Int.mul_le_mul h0.2 h1.2 (by omega) (by omega)
  constructor
  · exact Int.le_trans (by decide) a
  · exact Int.le_trans b (by decide)
theorem hasCell_e {n b : Nat} {x : Int} {t : Nat → Int} {h : yH} (hS : cS b t h) (hW : tW0 t) : f_X6_hasCell n [(b : Int), x] h = some (if 0 ≤ x ∧ x < t 0 * t 1 then 1 else 0, h) := by
  have w := wh_b hW
  rw [eg_X6_hasCell]
  by_cases c : x < 0
  · rw [if_pos c, if_neg (fun q => by omega)]
  · rw [if_neg c, eg_X6_cells, Int.toNat_natCast, hS.1, hS.2.1]
    generalize t 0 * t 1 = z at *
    rw [xg_pos (by omega), xb_some]
    by_cases c2 : x < z
    · rw [if_pos c2, if_pos (by omega)]
    · rw [if_neg c2, if_neg (by omega)]
theorem isCell_e {n : Nat} {x : Int} {u : Nat → Int} {g : yH} (h24 : g 35 24 = u 0) (h25 : g 35 25 = u 1) (hW : tW0 u) : f_X12_isCell n [35, x] g = some (if 0 ≤ x ∧ x < u 0 * u 1 then 1 else 0, g) := by
  have w := wh_b hW
  rw [e_X12_isCell, h24, h25]
  generalize u 0 * u 1 = z at *
  rw [xg_pos (by omega), xg_pos (by omega)]
  by_cases c : 0 ≤ x ∧ x < z
  · rw [in_t (by omega), xb_some, xg_pos (by decide), if_pos c]
  · rw [in_f (by omega), xb_some, xg_pos (by decide), if_neg c]
theorem isBoat_e {n : Nat} {x : Int} {u : Nat → Int} {g : yH} (h28 : g 35 28 = u 6) (hW : tW0 u) : f_X12_isBoat n [35, x] g = some (if 0 ≤ x ∧ x < u 6 then 1 else 0, g) := by
  have w := hW.wd
  rw [e_X12_isBoat, h28, xg_pos (by omega)]
  by_cases c : 0 ≤ x ∧ x < u 6
  · rw [in_t (by omega), xb_some, xg_pos (by decide), if_pos c]
  · rw [in_f (by omega), xb_some, xg_pos (by decide), if_neg c]
def farV (t : Nat → Int) (x y : Int) : Int := if (0 ≤ x ∧ x < t 0 * t 1) ∧ (0 ≤ y ∧ y < t 0 * t 1) then cst (t 0) (t 2) (t 3) x y else -1
theorem farC_e {n s : Nat} {x y : Int} {t : Nat → Int} {h : yH} (hP : cP h) (hb : h 6 0 ≤ 2) (hs : (s : Int) < h 6 0) (hS : cS (20 + 10 * s) t h) (hW : tW0 t) : f_X11_far n [1, (s : Int), x, y] h = some (farV t x y, h) := by
  have w := wh_b hW
  have d := hW.wd
  rw [e_X11_far, xg_pos (hP.p (by decide)), findSea_e hP hb, xb_some, if_pos (show 0 ≤ (s : Int) ∧ (s : Int) < h 6 0 by omega), if_neg (by omega), xg_pos (by omega), show 20 + 10 * (s : Int) = ((20 + 10 * s : Nat) : Int) by omega, hasCell_e hS hW, xb_some]
  unfold farV
  by_cases c1 : 0 ≤ x ∧ x < t 0 * t 1
  · rw [if_pos c1, if_neg (by decide), xg_pos (by omega), hasCell_e hS hW, xb_some]
    by_cases c2 : 0 ≤ y ∧ y < t 0 * t 1
    · rw [if_pos c2, if_neg (by decide), xg_pos (by omega), if_pos ⟨c1, c2⟩, cost_e hS.1 hS.2.2.1 hS.2.2.2.1 d.1 d.2.2.2.1 (by omega) (by omega), xb_some]
    · rw [if_neg c2, if_pos rfl, if_neg (fun q => c2 q.2)]
  · rw [if_neg c1, if_pos rfl, if_neg (fun q => c1 q.1)]
theorem farR_e {m s : Nat} {x y : Int} {t : Nat → Int} {g : yH} (hn : 7 ≤ m) (hq : rQ g) (h4 : ∀ j, j < 12 → 0 ≤ g 4 j ∧ g 4 j ≤ 2) (hs : (s : Int) < g 4 0) (ht : ∀ j, j < 50 → g 5 (50 * s + j) = t j) (hW : tW0 t) : yR (f_X12_far m [35, (s : Int), x, y] g) (fun v g2 => v = farV t x y ∧ hdR s t (zup g 35 0 0) g2) := by
  have w := wh_b hW
  have d := hW.wd
  refine yR.e e_X12_far ?_
  refine yR.b (hand_e hn (c0_q hq) (c0_4 h4) (by rw [zup_ne (by omega)]; exact hs) (fun j hj => by rw [zup_ne (by omega)]; exact ht j hj) hW) (fun v g2 ⟨rv, H⟩ => ?_)
  subst rv
  obtain ⟨p0, p1, p2, p3, p5, p6⟩ := H.2.1
  refine yR.f (by decide) ?_
  rw [isCell_e p0 p1 hW, xb_some]
  unfold farV
  by_cases c1 : 0 ≤ x ∧ x < t 0 * t 1
  · rw [if_pos c1, if_neg (by decide), isCell_e p0 p1 hW, xb_some]
    by_cases c2 : 0 ≤ y ∧ y < t 0 * t 1
    · rw [if_pos c2, if_neg (by decide), if_pos ⟨c1, c2⟩, costOf_e (by omega) p0 p2 p3 d.1 d.2.2.1 d.2.2.2.1 (by omega) (by omega), xb_some]
      exact yR.s ⟨rfl, H⟩
    · rw [if_neg c2, if_pos rfl, if_neg (fun q => c2 q.2)]
      exact yR.s ⟨rfl, H⟩
  · rw [if_neg c1, if_pos rfl, if_neg (fun q => c1 q.1)]
    exact yR.s ⟨rfl, H⟩
theorem RR_far {m n : Nat} {x k w : Int} {h g : yH} (hn : 7 ≤ m) (R : RR True h g) (hL : lnI h) (hm : h 4 1 ≤ 600) (hq : rQ g) (h4 : ∀ j, j < 12 → 0 ≤ g 4 j ∧ g 4 j ≤ 2) : ∃ v h2 g2, f_X11_far n [1, x, k, w] h = some (v, h2) ∧ f_X12_far m [35, x, k, w] g = some (v, g2) ∧ RR True h2 g2 ∧ ∀ a j, h2 a j = h a j := by
  have hP := R.1
  have n0 := R.n6 (j := 0) (by decide)
  have b0 := h4 0 (by decide)
  refine RR_ask (k := 0) (none' := -1) R hL hm hq h4 (fun c => ?_) (fun c => ?_) (fun s t e hs h6 h4' hW hS hp ht => ?_)
  · rw [e_X11_far, xg_pos (hP.p (by decide)), findSea_e hP (by omega), xb_some, if_neg c, if_pos (by decide)]
  · refine ⟨-1, zup g 35 0 0, ?_, rfl, R.c0 hL hm⟩
    rw [e_X12_far, hand_n (c0_q hq) (c0_4 h4) (by rw [zup_ne (by omega)]; exact c), xb_some, if_pos rfl]
  · subst e
    obtain ⟨v, g2, e2, rv, H⟩ := farR_e (m := m) (x := k) (y := w) hn hq h4 h4' ht hW
    subst rv
    exact ⟨_, h, g2, farC_e hP (by omega) h6 hS hW, e2, (R.c0 hL hm).hd hL hm H, fun _ _ => rfl⟩
/-- how many hear b -/
def nHr (u : Nat → Int) (b : Nat) : Int := bcn (hrs u b)
theorem nHr_b {u : Nat → Int} {b : Nat} : 0 ≤ nHr u b ∧ nHr u b ≤ 6 := bcn_b
def ldA (u : Nat → Int) : Nat → Nat → Int → Int → Int
  | 0, _, best, _ => best
  | m + 1, k, best, most => if (k : Int) < u 6 then (if most < nHr u k then ldA u m (k + 1) (k : Int) (nHr u k) else ldA u m (k + 1) best most) else best
theorem loudest_l {b : Nat} {u : Nat → Int} {h : yH} (hS : cS b u h) (hp : cSp b h) (hW : tW0 u) : ∀ (m k n : Nat) (best most : Int), 7 - k = m → (k : Int) ≤ u 6 → m + 7 ≤ n → xl_X10_loudest n 7 [150, (b : Int), best, most, (k : Int)] h = some (ldA u m k best most, h) := by
  have w6 := hW.wd.2.2.2.2
  intro m
  induction m with
  | zero => intro k n best most e1 e2; omega
  | succ m ih =>
    intro k n best most e1 e2 e3
    obtain ⟨n, rfl⟩ : ∃ n', n = n' + 1 := ⟨n - 1, by omega⟩
    rw [e_X10_loudest_7, Int.toNat_natCast, hS.2.2.2.2.2.2.1]
    show _ = some (if (k : Int) < u 6 then (if most < nHr u k then ldA u m (k + 1) (k : Int) (nHr u k) else ldA u m (k + 1) best most) else best, h)
    by_cases c : (k : Int) < u 6
    · rw [if_pos c, if_pos c, asTold_e (by omega) hS hp hW c, xb_some, bc_e (hrs_b hW), xb_some, show bcn (hrs u k) = nHr u k from rfl]
      by_cases c2 : most < nHr u k
      · rw [if_pos c2, if_pos c2, xg_pos (by omega), show (k : Int) + 1 = ((k + 1 : Nat) : Int) by omega, ih (k + 1) n _ _ (by omega) (by omega) (by omega)]
      · rw [if_neg c2, if_neg c2, xg_pos (by omega), show (k : Int) + 1 = ((k + 1 : Nat) : Int) by omega, ih (k + 1) n _ _ (by omega) (by omega) (by omega)]
    · rw [if_neg c, if_neg c]
theorem loudR_l {s : Nat} {x1 : Int} {t u : Nat → Int} {g : yH} (H : hv s t u g) (hW : tW0 u) : ∀ (m k n : Nat) (best most : Int), 7 - k = m → (k : Int) ≤ u 6 → m + 17 ≤ n → xl_X12_loud n 22 [35, x1, best, most, (k : Int)] g = some (ldA u m k best most, g) := by
  have w6 := hW.wd.2.2.2.2
  intro m
  induction m with
  | zero => intro k n best most e1 e2; omega
  | succ m ih =>
    intro k n best most e1 e2 e3
    obtain ⟨n, rfl⟩ : ∃ n', n = n' + 1 := ⟨n - 1, by omega⟩
    rw [e_X12_loud_22, H.2.2.2.2.2.2.1]
    show _ = some (if (k : Int) < u 6 then (if most < nHr u k then ldA u m (k + 1) (k : Int) (nHr u k) else ldA u m (k + 1) best most) else best, g)
    by_cases c : (k : Int) < u 6
    · rw [if_pos c, if_pos c, hearersOf_e (by omega) H hW c, xb_some, ones_e (by omega) (hrs_b hW), xb_some, show bcn (hrs u k) = nHr u k from rfl]
      by_cases c2 : most < nHr u k
      · rw [if_pos c2, if_pos c2, e_X12_greater, if_neg (by omega), xb_some, xg_pos (by omega), show (k : Int) + 1 = ((k + 1 : Nat) : Int) by omega, ih (k + 1) n _ _ (by omega) (by omega) (by omega)]
      · rw [if_neg c2, if_neg c2, e_X12_greater]
        by_cases c3 : nHr u k < most
        · rw [if_pos c3, xb_some, xg_pos (by omega), show (k : Int) + 1 = ((k + 1 : Nat) : Int) by omega, ih (k + 1) n _ _ (by omega) (by omega) (by omega)]
        · rw [if_neg c3, xb_some, xg_pos (by omega), show nHr u k = most by omega, show (k : Int) + 1 = ((k + 1 : Nat) : Int) by omega, ih (k + 1) n _ _ (by omega) (by omega) (by omega)]
    · rw [if_neg c, if_neg c]
theorem RR_loud {m n : Nat} {x : Int} {h g : yH} (hn : 14 ≤ n) (hm2 : 24 ≤ m) (R : RR True h g) (hw : h 1 4 = 150) (hL : lnI h) (hm : h 4 1 ≤ 600) (hq : rQ g) (h4 : ∀ j, j < 12 → 0 ≤ g 4 j ∧ g 4 j ≤ 2) : ∃ v h2 g2, f_X11_loud n [1, x] h = some (v, h2) ∧ f_X12_loud m [35, x] g = some (v, g2) ∧ RR True h2 g2 ∧ ∀ a j, h2 a j = h a j := by
  have hP := R.1
  have n0 := R.n6 (j := 0) (by decide)
  have b0 := h4 0 (by decide)
  refine RR_ask (k := 0) (none' := -1) R hL hm hq h4 (fun c => ?_) (fun c => ?_) (fun s t e hs h6 h4' hW hS hp ht => ?_)
  · rw [e_X11_loud, xg_pos (hP.p (by decide)), findSea_e hP (by omega), xb_some, if_neg c, if_pos (by decide)]
  · refine ⟨-1, zup g 35 0 0, ?_, rfl, R.c0 hL hm⟩
    rw [e_X12_loud, hand_n (c0_q hq) (c0_4 h4) (by rw [zup_ne (by omega)]; exact c), xb_some, if_pos rfl]
  · subst e
    obtain ⟨v, g2, e2, rv, H⟩ := hand_e (n := m) (s := s) (t := t) (by omega) (c0_q hq) (c0_4 h4) (by rw [zup_ne (by omega)]; exact h4') (fun j hj => by rw [zup_ne (by omega)]; exact ht j hj) hW
    subst rv
    have w6 := hW.wd.2.2.2.2
    refine ⟨ldA t 7 0 (-1) (-1), h, g2, ?_, ?_, (R.c0 hL hm).hd hL hm H, fun _ _ => rfl⟩
    · rw [e_X11_loud, xg_pos (hP.p (by decide)), findSea_e hP (by omega), xb_some, if_pos (show 0 ≤ (s : Int) ∧ (s : Int) < h 6 0 by omega), if_neg (by omega), xg_pos hw, xg_pos (by omega), e_X10_loudest, show 20 + 10 * (s : Int) = ((20 + 10 * s : Nat) : Int) by omega]
      have := loudest_l hS hp hW 7 0 n (-1) (-1) rfl w6.1 hn
      rw [show ((0 : Nat) : Int) = 0 from rfl] at this
      rw [this, xb_some]
    · rw [e_X12_loud, e2, xb_some, if_neg (by decide)]
      have := loudR_l (x1 := (s : Int)) H.v hW 7 0 m (-1) (-1) rfl w6.1 hm2
      rw [show ((0 : Nat) : Int) = 0 from rfl] at this
      exact this
end
section
/-! winds -/
def cplA (u : Nat → Int) : Nat → Nat → Int → Int
  | 0, _, a => a
  | m + 1, k, a => if (k : Int) < u 6 then cplA u m (k + 1) (a + nHr u k) else a
def cpl (u : Nat → Int) : Int := cplA u 7 0 0
theorem cplA_b {u : Nat → Int} : ∀ (m k : Nat) (a : Int), 0 ≤ a → 0 ≤ cplA u m k a ∧ cplA u m k a ≤ a + 6 * m := by
  intro m
  induction m with
  | zero =>
    intro k a h
    show 0 ≤ a ∧ a ≤ a + 6 * ((0 : Nat) : Int)
    omega
  | succ m ih =>
    intro k a h
    have q := nHr_b (u := u) (b := k)
    have := ih (k + 1) (a + nHr u k) (by omega)
    show 0 ≤ (if (k : Int) < u 6 then cplA u m (k + 1) (a + nHr u k) else a) ∧ (if (k : Int) < u 6 then cplA u m (k + 1) (a + nHr u k) else a) ≤ a + 6 * ((m + 1 : Nat) : Int)
    by_cases c : (k : Int) < u 6
    · rw [if_pos c]
      omega
    · rw [if_neg c]
      omega
theorem cpl_b {u : Nat → Int} : 0 ≤ cpl u ∧ cpl u ≤ 42 := cplA_b 7 0 0 (Int.le_refl _)
theorem couples_l {b : Nat} {u : Nat → Int} {h : yH} (hS : cS b u h) (hp : cSp b h) (hW : tW0 u) : ∀ (m k n : Nat) (a : Int), 7 - k = m → (k : Int) ≤ u 6 → m + 7 ≤ n → 0 ≤ a ∧ a ≤ 6 * k → xl_X10_countCouples n 4 [(b : Int), a, (k : Int)] h = some (cplA u m k a, h) := by
  have w6 := hW.wd.2.2.2.2
  intro m
  induction m with
  | zero => intro k n a e1 e2; omega
  | succ m ih =>
    intro k n a e1 e2 e3 ha
    obtain ⟨n, rfl⟩ : ∃ n', n = n' + 1 := ⟨n - 1, by omega⟩
    have q := nHr_b (u := u) (b := k)
    rw [e_X10_countCouples_4, Int.toNat_natCast, hS.2.2.2.2.2.2.1]
    show _ = some (if (k : Int) < u 6 then cplA u m (k + 1) (a + nHr u k) else a, h)
    by_cases c : (k : Int) < u 6
    · rw [if_pos c, if_pos c, asTold_e (by omega) hS hp hW c, xb_some, bc_e (hrs_b hW), xb_some, show bcn (hrs u k) = nHr u k from rfl, xg_pos (by omega), xg_pos (by omega), show (k : Int) + 1 = ((k + 1 : Nat) : Int) by omega, ih (k + 1) n _ (by omega) (by omega) (by omega) (by omega)]
    · rw [if_neg c, if_neg c]
theorem couples_e {n b : Nat} {u : Nat → Int} {h : yH} (hn : 14 ≤ n) (hS : cS b u h) (hp : cSp b h) (hW : tW0 u) : f_X10_countCouples n [(b : Int)] h = some (cpl u, h) := by
  rw [e_X10_countCouples]
  exact couples_l hS hp hW 7 0 n 0 rfl hW.wd.2.2.2.2.1 hn (by omega)
/-- a sea with the k-th wind -/
def wU (t : Nat → Int) (k : Nat) : Nat → Int := tU (tU t 2 ((k % 4 : Nat) : Int)) 3 ((k / 4 : Nat) : Int)
theorem wU_ne {t : Nat → Int} {k i : Nat} (h : i ≠ 2 ∧ i ≠ 3) : wU t k i = t i := by
  unfold wU
  rw [tU_ne h.2, tU_ne h.1]
theorem wU_2 {t : Nat → Int} {k : Nat} : wU t k 2 = ((k % 4 : Nat) : Int) := by
  unfold wU
  rw [tU_ne (by decide), tU_at]
theorem wU_3 {t : Nat → Int} {k : Nat} : wU t k 3 = ((k / 4 : Nat) : Int) := by
  unfold wU
  rw [tU_at]
theorem wU_W {t : Nat → Int} {k : Nat} (h : tW0 t) (hk : k < 16) : tW0 (wU t k) := by
  obtain ⟨h0, h1, h2, h3, h4, h5, h6, h7, h8, h9, h10⟩ := h
  refine ⟨?_, ?_, ?_, ?_, ?_, ?_, ?_, ?_, fun c hc => ?_, fun s hs => ?_, fun b hb => ?_⟩
  · rw [wU_ne (by omega)]; exact h0
  · rw [wU_ne (by omega)]; exact h1
  · rw [wU_2]; omega
  · rw [wU_3]; omega
  · rw [wU_ne (by omega)]; exact h4
  · rw [wU_ne (by omega)]; exact h5
  · rw [wU_ne (by omega)]; exact h6
  · rw [wU_ne (by omega)]; exact h7
  · rw [wU_ne (by omega), wU_ne (by omega), wU_ne (by omega), wU_ne (by omega)]; exact h8 c hc
  · rw [wU_ne (by omega), wU_ne (by omega), wU_ne (by omega), wU_ne (by omega)]; exact h9 s hs
  · rw [wU_ne (by omega), wU_ne (by omega), wU_ne (by omega)]; exact h10 b hb
def wN (t : Nat → Int) (k : Nat) : Int := cpl (wU t k)
def wS (t : Nat → Int) (r : Nat × Int) (k : Nat) : Nat × Int := if r.2 < wN t k then (k, wN t k) else r
def wFd (t : Nat → Int) : Nat → Nat → Nat × Int → Nat × Int
  | 0, _, r => r
  | m + 1, k, r => wFd t m (k + 1) (wS t r k)
theorem wS_b {t : Nat → Int} {r : Nat × Int} {k : Nat} (hk : k < 16) (hr : r.1 < 16) : (wS t r k).1 < 16 ∧ 0 ≤ (wS t r k).2 ∧ (r.2 ≤ 42 → (wS t r k).2 ≤ 42) := by
  have q : 0 ≤ wN t k ∧ wN t k ≤ 42 := cpl_b
  unfold wS
  by_cases c : r.2 < wN t k
  · rw [if_pos c]
    exact ⟨hk, q.1, fun _ => q.2⟩
  · rw [if_neg c]
    exact ⟨hr, by omega, fun h => h⟩
theorem wFd_b {t : Nat → Int} : ∀ (m k : Nat) (r : Nat × Int), m + k ≤ 16 → r.1 < 16 → 0 ≤ r.2 → (wFd t m k r).1 < 16 ∧ 0 ≤ (wFd t m k r).2 := by
  intro m
  induction m with
  | zero => intro k r _ h1 h2; exact ⟨h1, h2⟩
  | succ m ih =>
    intro k r e h1 h2
    have q := wS_b (t := t) (k := k) (by omega) h1
    exact ih (k + 1) _ (by omega) q.1 q.2.1
def wAll (t : Nat → Int) : Nat × Int := wFd t 12 4 (wS t (0, -1) 0)
theorem wAll_b {t : Nat → Int} : (wAll t).1 < 16 ∧ 0 ≤ (wAll t).2 := by
  have q := wS_b (t := t) (r := (0, -1)) (k := 0) (by decide) (by decide)
  exact wFd_b 12 4 _ (by decide) q.1 q.2.1
/-! the class: a sea of its own with another wind -/
def cSn (t : Nat → Int) (h : yH) : Prop := h 160 0 = t 0 ∧ h 160 1 = t 1 ∧ h 160 4 = t 4 ∧ h 160 6 = t 5 ∧ h 160 10 = t 6 ∧ h 160 14 = t 49 ∧ (∀ i, i < 12 → h 161 i = t (7 + i)) ∧
  (∀ k : Nat, (k : Int) < t 5 → h 162 k = t (19 + 3 * k) ∧ h 163 k = t (20 + 3 * k) ∧ h 164 k = t (21 + 3 * k)) ∧
  (∀ k : Nat, (k : Int) < t 6 → h 165 k = t (31 + 3 * k) ∧ h 166 k = t (32 + 3 * k) ∧ h 167 k = t (33 + 3 * k))
theorem cSn.of {t : Nat → Int} {h : yH} (hS : cS 160 t h) : cSn t h := by
  obtain ⟨a0, a1, a2, a3, a4, a5, a6, a7, a8, a9, a10⟩ := hS
  exact ⟨a0, a1, a4, a5, a6, a7, a8, a9, a10⟩
theorem cSn.at {t : Nat → Int} {h : yH} {k : Nat} (hS : cSn t h) (h2 : h 160 2 = ((k % 4 : Nat) : Int)) (h3 : h 160 3 = ((k / 4 : Nat) : Int)) : cS 160 (wU t k) h := by
  obtain ⟨a0, a1, a4, a5, a6, a7, a8, a9, a10⟩ := hS
  refine ⟨?_, ?_, ?_, ?_, ?_, ?_, ?_, ?_, fun i hi => ?_, fun i hi => ?_, fun i hi => ?_⟩
  · rw [wU_ne (by omega)]; exact a0
  · rw [wU_ne (by omega)]; exact a1
  · rw [wU_2]; exact h2
  · rw [wU_3]; exact h3
  · rw [wU_ne (by omega)]; exact a4
  · rw [wU_ne (by omega)]; exact a5
  · rw [wU_ne (by omega)]; exact a6
  · rw [wU_ne (by omega)]; exact a7
  · rw [wU_ne (by omega)]; exact a8 i hi
  · rw [wU_ne (by omega)] at hi
    rw [wU_ne (by omega), wU_ne (by omega), wU_ne (by omega)]; exact a9 i hi
  · rw [wU_ne (by omega)] at hi
    rw [wU_ne (by omega), wU_ne (by omega), wU_ne (by omega)]; exact a10 i hi
theorem cSn.fr {t : Nat → Int} {h h2 : yH} (hS : cSn t h) (e : ∀ a j, 160 ≤ a → a ≤ 167 → ¬ (a = 160 ∧ (j = 2 ∨ j = 3)) → h2 a j = h a j) : cSn t h2 := by
  obtain ⟨a0, a1, a4, a5, a6, a7, a8, a9, a10⟩ := hS
  refine ⟨?_, ?_, ?_, ?_, ?_, ?_, fun i hi => ?_, fun i hi => ?_, fun i hi => ?_⟩
  · rw [e _ _ (by omega) (by omega) (by omega)]; exact a0
  · rw [e _ _ (by omega) (by omega) (by omega)]; exact a1
  · rw [e _ _ (by omega) (by omega) (by omega)]; exact a4
  · rw [e _ _ (by omega) (by omega) (by omega)]; exact a5
  · rw [e _ _ (by omega) (by omega) (by omega)]; exact a6
  · rw [e _ _ (by omega) (by omega) (by omega)]; exact a7
  · rw [e _ _ (by omega) (by omega) (by omega)]; exact a8 i hi
  · rw [e _ _ (by omega) (by omega) (by omega), e _ _ (by omega) (by omega) (by omega), e _ _ (by omega) (by omega) (by omega)]; exact a9 i hi
  · rw [e _ _ (by omega) (by omega) (by omega), e _ _ (by omega) (by omega) (by omega), e _ _ (by omega) (by omega) (by omega)]; exact a10 i hi
/-- while it looks for the wind: what is best up to now; nothing else is changed -/
def wI (t : Nat → Int) (h0 : yH) (r : Nat × Int) (h : yH) : Prop := h 150 3 = 160 ∧ cSp 160 h ∧ cSn t h ∧ h 150 2 = r.2 ∧ (0 ≤ r.2 → h 150 0 = ((r.1 / 4 : Nat) : Int) ∧ h 150 1 = ((r.1 % 4 : Nat) : Int)) ∧ ∀ a j, a ≠ 150 → ¬ (160 ≤ a ∧ a ≤ 167) → h a j = h0 a j
theorem wind_33 {t : Nat → Int} {h0 : yH} {x1 : Int} {st : Nat} (hW : tW0 t) (hst : st < 4) {sides : Nat} (hsd : sides ≤ 4) : ∀ (m sd n : Nat) (r : Nat × Int) (h : yH), sides = sd + m → m + 16 ≤ n → r.1 < 16 → r.2 ≤ 42 → wI t h0 r h →
    ∃ h2 n2, xl_X10_findWind n 33 [150, x1, (st : Int), (sides : Int), (sd : Int)] h = xl_X10_findWind n2 15 [150, x1, ((st + 1 : Nat) : Int)] h2 ∧ n2 + m + 1 = n ∧ (wFd t m (4 * st + sd) r).1 < 16 ∧ (wFd t m (4 * st + sd) r).2 ≤ 42 ∧ wI t h0 (wFd t m (4 * st + sd) r) h2 := by
  intro m
  induction m with
  | zero =>
    intro sd n r h e1 e2 r1 r2 I
    obtain ⟨n, rfl⟩ : ∃ n', n = n' + 1 := ⟨n - 1, by omega⟩
    refine ⟨h, n, ?_, by omega, r1, r2, I⟩
    rw [e_X10_findWind_33, if_neg (by omega), xg_pos (by omega), show (st : Int) + 1 = ((st + 1 : Nat) : Int) by omega]
  | succ m ih =>
    intro sd n r h e1 e2 r1 r2 I
    obtain ⟨n, rfl⟩ : ∃ n', n = n' + 1 := ⟨n - 1, by omega⟩
    obtain ⟨i1, i2, i3, i4, i5, i6⟩ := I
    have hk : 4 * st + sd < 16 := by omega
    have q := wS_b (t := t) (r := r) (k := 4 * st + sd) hk r1
    have hN : 0 ≤ wN t (4 * st + sd) ∧ wN t (4 * st + sd) ≤ 42 := cpl_b
    obtain ⟨h3, hh3⟩ : ∃ h3, h3 = zup (zup h 160 3 (st : Int)) 160 2 (sd : Int) := ⟨_, rfl⟩
    have fr : ∀ a j, ¬ (a = 160 ∧ (j = 2 ∨ j = 3)) → h3 a j = h a j := fun a j w => by
      rw [hh3, zup_ne (by omega), zup_ne (by omega)]
    have p3 : h3 150 3 = 160 := by rw [fr _ _ (by omega)]; exact i1
    have s3 : cSp 160 h3 := i2.fr (fun j w => fr _ _ (by omega))
    have n3 : cSn t h3 := i3.fr (fun a j _ _ w => fr _ _ w)
    have c3 : cS 160 (wU t (4 * st + sd)) h3 := n3.at (by rw [hh3, zup_at]; omega) (by rw [hh3, zup_ne (by omega), zup_at]; omega)
    have cc : f_X10_countCouples n [160] h3 = some (wN t (4 * st + sd), h3) := couples_e (n := n) (b := 160) (by omega) c3 s3 (wU_W hW hk)
    have key : xl_X10_findWind (n + 1) 33 [150, x1, (st : Int), (sides : Int), (sd : Int)] h = xl_X10_findWind n 33 [150, x1, (st : Int), (sides : Int), ((sd + 1 : Nat) : Int)] (if r.2 < wN t (4 * st + sd) then zup (zup (zup h3 150 2 (wN t (4 * st + sd))) 150 0 (st : Int)) 150 1 (sd : Int) else h3) := by
      rw [e_X10_findWind_33, if_pos (by omega), i1]
      show xg (0 ≤ (sd : Int) ∧ (sd : Int) ≤ 3) (xh (zup (zup h 160 3 (st : Int)) ((zup h 160 3 (st : Int)) 150 3).toNat 2 (sd : Int)) _) = _
      rw [xg_pos (by omega), zup_ne (show ¬ (150 = 160 ∧ 3 = 3) by omega), i1]
      show xb (f_X10_countCouples n [(zup (zup h 160 3 (st : Int)) 160 2 (sd : Int)) 150 3] (zup (zup h 160 3 (st : Int)) 160 2 (sd : Int))) _ = _
      rw [← hh3, p3, cc, xb_some, fr 150 2 (by omega), i4]
      by_cases c : r.2 < wN t (4 * st + sd)
      · rw [if_pos c, if_pos c, xg_pos (by omega), show (sd : Int) + 1 = ((sd + 1 : Nat) : Int) by omega]
      · rw [if_neg c, if_neg c, xg_pos (by omega), show (sd : Int) + 1 = ((sd + 1 : Nat) : Int) by omega]
    by_cases c : r.2 < wN t (4 * st + sd)
    · have eS : wS t r (4 * st + sd) = (4 * st + sd, wN t (4 * st + sd)) := if_pos c
      rw [if_pos c] at key
      obtain ⟨h2, n2, f1, f2, f3, f4, f5⟩ := ih (sd + 1) n (wS t r (4 * st + sd)) (zup (zup (zup h3 150 2 (wN t (4 * st + sd))) 150 0 (st : Int)) 150 1 (sd : Int)) (by omega) (by omega) q.1 (q.2.2 r2) (by
        rw [eS]
        refine ⟨?_, ?_, ?_, ?_, fun _ => ⟨?_, ?_⟩, fun a j w1 w2 => ?_⟩
        · rw [zup_ne (by omega), zup_ne (by omega), zup_ne (by omega)]; exact p3
        · exact s3.fr (fun j w => by rw [zup_ne (by omega), zup_ne (by omega), zup_ne (by omega)])
        · exact n3.fr (fun a j w1 w2 w => by rw [zup_ne (by omega), zup_ne (by omega), zup_ne (by omega)])
        · rw [zup_ne (by omega), zup_ne (by omega), zup_at]
        · rw [zup_ne (by omega), zup_at]
          show (st : Int) = (((4 * st + sd) / 4 : Nat) : Int)
          omega
        · rw [zup_at]
          show (sd : Int) = (((4 * st + sd) % 4 : Nat) : Int)
          omega
        · rw [zup_ne (by omega), zup_ne (by omega), zup_ne (by omega), fr _ _ (by omega)]
          exact i6 a j w1 w2)
      exact ⟨h2, n2, key.trans f1, by omega, f3, f4, f5⟩
    · have eS : wS t r (4 * st + sd) = r := if_neg c
      rw [if_neg c] at key
      obtain ⟨h2, n2, f1, f2, f3, f4, f5⟩ := ih (sd + 1) n (wS t r (4 * st + sd)) h3 (by omega) (by omega) q.1 (q.2.2 r2) (by
        rw [eS]
        exact ⟨p3, s3, n3, by rw [fr _ _ (by omega)]; exact i4, fun w => by rw [fr _ _ (by omega), fr _ _ (by omega)]; exact i5 w, fun a j w1 w2 => by rw [fr _ _ (by omega)]; exact i6 a j w1 w2⟩)
      exact ⟨h2, n2, key.trans f1, by omega, f3, f4, f5⟩
theorem findWind_e {n b : Nat} {t : Nat → Int} {h : yH} (hn : 60 ≤ n) (hw : cPw h) (hb : b + 8 ≤ 160) (hS : cS b t h) (hp : cSp b h) (hW : tW0 t) (hbn : ¬ b = 150) : ∃ h2, f_X10_findWind n [150, (b : Int)] h = some (0, h2) ∧ wI t h (wAll t) h2 := by
  obtain ⟨w1, w2, w3⟩ := hw
  obtain ⟨h1, e1, s1, fr⟩ := copy6 (n := n) (d := 160) (s := b) (by omega) w3 hp hS hW
  rw [e_X10_findWind, w2]
  rw [show ((160 : Nat) : Int) = 160 from rfl] at e1
  rw [e1, xb_some]
  have I0 : wI t h (0, -1) (zup h1 150 2 (-1)) := by
    refine ⟨?_, ?_, ?_, zup_at _ _ _ _, fun q => absurd q (by decide), fun a j v1 v2 => ?_⟩
    · rw [zup_ne (by omega), fr _ _ (by omega)]; exact w2
    · exact w3.fr (fun j w => by rw [zup_ne (by omega), fr _ _ (by omega)])
    · exact (cSn.of s1).fr (fun a j v1 v2 v => zup_ne (by omega))
    · rw [zup_ne (by omega), fr _ _ (by omega)]
  generalize zup h1 150 2 (-1) = h3 at I0
  obtain ⟨n, rfl⟩ : ∃ n', n = n' + 1 := ⟨n - 1, by omega⟩
  obtain ⟨h4, n4, a1, a2, a3, a4, a5⟩ := wind_33 (x1 := (b : Int)) (st := 0) (sides := 1) hW (by decide) (by decide) 1 0 n (0, -1) h3 rfl (by omega) (by decide) (by decide) I0
  obtain ⟨n4, rfl⟩ : ∃ n', n4 = n' + 1 := ⟨n4 - 1, by omega⟩
  obtain ⟨h5, n5, b1, b2, b3, b4, b5⟩ := wind_33 (x1 := (b : Int)) (st := 1) (sides := 4) hW (by decide) (by decide) 4 0 n4 _ h4 rfl (by omega) a3 a4 a5
  obtain ⟨n5, rfl⟩ : ∃ n', n5 = n' + 1 := ⟨n5 - 1, by omega⟩
  obtain ⟨h6, n6, c1, c2, c3, c4, c5⟩ := wind_33 (x1 := (b : Int)) (st := 2) (sides := 4) hW (by decide) (by decide) 4 0 n5 _ h5 rfl (by omega) b3 b4 b5
  obtain ⟨n6, rfl⟩ : ∃ n', n6 = n' + 1 := ⟨n6 - 1, by omega⟩
  obtain ⟨h7, n7, d1, d2, d3, d4, d5⟩ := wind_33 (x1 := (b : Int)) (st := 3) (sides := 4) hW (by decide) (by decide) 4 0 n6 _ h6 rfl (by omega) c3 c4 c5
  obtain ⟨n7, rfl⟩ : ∃ n', n7 = n' + 1 := ⟨n7 - 1, by omega⟩
  refine ⟨h7, ?_, d5⟩
  rw [e_X10_findWind_15, if_neg (by decide), if_pos rfl]
  refine (show _ = xl_X10_findWind n 33 [150, (b : Int), ((0 : Nat) : Int), ((1 : Nat) : Int), ((0 : Nat) : Int)] h3 from rfl).trans ?_
  rw [a1, e_X10_findWind_15, if_neg (by decide), if_neg (by decide)]
  refine (show _ = xl_X10_findWind n4 33 [150, (b : Int), ((1 : Nat) : Int), ((4 : Nat) : Int), ((0 : Nat) : Int)] h4 from rfl).trans ?_
  rw [b1, e_X10_findWind_15, if_neg (by decide), if_neg (by decide)]
  refine (show _ = xl_X10_findWind n5 33 [150, (b : Int), ((2 : Nat) : Int), ((4 : Nat) : Int), ((0 : Nat) : Int)] h5 from rfl).trans ?_
  rw [c1, e_X10_findWind_15, if_neg (by decide), if_neg (by decide)]
  refine (show _ = xl_X10_findWind n6 33 [150, (b : Int), ((3 : Nat) : Int), ((4 : Nat) : Int), ((0 : Nat) : Int)] h6 from rfl).trans ?_
  rw [d1, e_X10_findWind_15, if_pos (by decide)]
end
section
/-! winds: the reference -/
def hvn (s : Nat) (t : Nat → Int) (g : yH) : Prop := sH s t g ∧ g 35 24 = t 0 ∧ g 35 25 = t 1 ∧ g 35 28 = t 6 ∧ ∀ i : Nat, (i : Int) < t 6 → g 10 i = t (31 + 3 * i) ∧ g 11 i = t (32 + 3 * i)
theorem hvn.fr {s : Nat} {t : Nat → Int} {g g2 : yH} (H : hvn s t g) (e : ∀ a j, ¬ (a = 35 ∧ (j = 26 ∨ j = 27)) → g2 a j = g a j) : hvn s t g2 := by
  obtain ⟨h1, h2, h3, h4, h5⟩ := H
  refine ⟨h1.fr (fun a j w => e a j (fun c => ?_)), by rw [e _ _ (by omega)]; exact h2, by rw [e _ _ (by omega)]; exact h3, by rw [e _ _ (by omega)]; exact h4, fun i hi => by rw [e _ _ (by omega), e _ _ (by omega)]; exact h5 i hi⟩
  rcases w with w | ⟨-, w | w⟩
  · omega
  · omega
  · have : ∀ j ∈ rQs, ¬ (j = 26 ∨ j = 27) := by decide
    exact this j w c.2
theorem hvn.at {s k : Nat} {t : Nat → Int} {g : yH} (H : hvn s t g) (h26 : g 35 26 = ((k % 4 : Nat) : Int)) (h27 : g 35 27 = ((k / 4 : Nat) : Int)) : hv s t (wU t k) g := by
  obtain ⟨h1, h2, h3, h4, h5⟩ := H
  refine ⟨h1, wU_ne (by omega), by rw [wU_ne (by omega)]; exact h2, by rw [wU_ne (by omega)]; exact h3, by rw [wU_2]; exact h26, by rw [wU_3]; exact h27, by rw [wU_ne (by omega)]; exact h4, fun i hi => ?_⟩
  rw [wU_ne (by omega)] at hi
  rw [wU_ne (by omega), wU_ne (by omega)]
  exact h5 i hi
theorem couR_l {s k : Nat} {x1 x2 : Int} {t u : Nat → Int} {g : yH} {r : Nat × Int} (H : hv s t u g) (hW : tW0 u) (hk : k < 16) : ∀ (m b n : Nat) (a : Int), 7 - b = m → (b : Int) ≤ u 6 → m + 20 ≤ n → 0 ≤ a ∧ a ≤ 6 * b →
    ∃ n2, n ≤ n2 + m ∧ n2 ≤ n ∧ xl_X12_winds n 72 [35, x1, x2, (r.1 : Int), r.2, (k : Int), a, (b : Int)] g = xl_X12_winds n2 32 [35, x1, x2, ((if r.2 < cplA u m b a then (k, cplA u m b a) else r).1 : Int), (if r.2 < cplA u m b a then (k, cplA u m b a) else r).2, ((k + 1 : Nat) : Int)] g := by
  have w6 := hW.wd.2.2.2.2
  intro m
  induction m with
  | zero => intro b n a e1 e2; omega
  | succ m ih =>
    intro b n a e1 e2 e3 ha
    obtain ⟨n, rfl⟩ : ∃ n', n = n' + 1 := ⟨n - 1, by omega⟩
    have q := nHr_b (u := u) (b := b)
    by_cases c : (b : Int) < u 6
    · have eA : cplA u (m + 1) b a = cplA u m (b + 1) (a + nHr u b) := if_pos c
      obtain ⟨n2, f1, f2, f3⟩ := ih (b + 1) n (a + nHr u b) (by omega) (by omega) (by omega) (by omega)
      refine ⟨n2, by omega, by omega, ?_⟩
      rw [eA, ← f3, e_X12_winds_72, H.2.2.2.2.2.2.1, if_pos c, hearersOf_e (by omega) H hW c, xb_some, ones_e (by omega) (hrs_b hW), xb_some, show bcn (hrs u b) = nHr u b from rfl, xg_pos (by omega), xg_pos (by omega), show (b : Int) + 1 = ((b + 1 : Nat) : Int) by omega]
    · have eA : cplA u (m + 1) b a = a := if_neg c
      refine ⟨n, by omega, by omega, ?_⟩
      rw [eA, e_X12_winds_72, H.2.2.2.2.2.2.1, if_neg c]
      by_cases c2 : r.2 < a
      · rw [if_pos c2, if_pos c2, e_X12_greater, if_neg (by omega), xb_some, xg_pos (by omega), show (k : Int) + 1 = ((k + 1 : Nat) : Int) by omega]
      · rw [if_neg c2, if_neg c2, e_X12_greater]
        by_cases c3 : a < r.2
        · rw [if_pos c3, xb_some, xg_pos (by omega), show (k : Int) + 1 = ((k + 1 : Nat) : Int) by omega]
        · rw [if_neg c3, xb_some, xg_pos (by omega), show a = r.2 by omega, show (k : Int) + 1 = ((k + 1 : Nat) : Int) by omega]
theorem yqF16 : ∀ k : Fin 16, yari 3 (k.val : Int) 4 = ((k.val / 4 : Nat) : Int) ∧ yari 4 (k.val : Int) 4 = ((k.val % 4 : Nat) : Int) := by decide +kernel
theorem stpR {s k n : Nat} {x1 x2 : Int} {t : Nat → Int} {g : yH} {r : Nat × Int} (H : hvn s t g) (hW : tW0 t) (hk : k < 16) (hk2 : k = 0 ∨ 3 < k) (hn : 28 ≤ n) :
    ∃ g2 n2, n ≤ n2 + 8 ∧ n2 ≤ n ∧ xl_X12_winds n 32 [35, x1, x2, (r.1 : Int), r.2, (k : Int)] g = xl_X12_winds n2 32 [35, x1, x2, ((wS t r k).1 : Int), (wS t r k).2, ((k + 1 : Nat) : Int)] g2 ∧ hvn s t g2 ∧ ∀ a j, ¬ (a = 35 ∧ (j = 26 ∨ j = 27)) → g2 a j = g a j := by
  obtain ⟨n, rfl⟩ : ∃ n', n = n' + 1 := ⟨n - 1, by omega⟩
  obtain ⟨q3, q4⟩ := yqF16 ⟨k, hk⟩
  simp only at q3 q4
  have key : xl_X12_winds (n + 1) 32 [35, x1, x2, (r.1 : Int), r.2, (k : Int)] g = xl_X12_winds n 72 [35, x1, x2, (r.1 : Int), r.2, (k : Int), 0, ((0 : Nat) : Int)] (zup (zup g 35 27 ((k / 4 : Nat) : Int)) 35 26 ((k % 4 : Nat) : Int)) := by
    rw [e_X12_winds_32, if_pos (by omega)]
    by_cases c : (k : Int) = 0
    · rw [if_pos c, e_X12_winds_50, q3, q4]
      rfl
    · rw [if_neg c, if_pos (by omega), e_X12_winds_50, q3, q4]
      rfl
  have fr : ∀ a j, ¬ (a = 35 ∧ (j = 26 ∨ j = 27)) → (zup (zup g 35 27 ((k / 4 : Nat) : Int)) 35 26 ((k % 4 : Nat) : Int)) a j = g a j := fun a j w => by
    rw [zup_ne (by omega), zup_ne (by omega)]
  have H2 := H.fr fr
  have H3 : hv s t (wU t k) (zup (zup g 35 27 ((k / 4 : Nat) : Int)) 35 26 ((k % 4 : Nat) : Int)) := H2.at (zup_at _ _ _ _) (by rw [zup_ne (by omega), zup_at])
  obtain ⟨n2, f1, f2, f3⟩ := couR_l (x1 := x1) (x2 := x2) (r := r) H3 (wU_W hW hk) hk 7 0 n 0 rfl (wU_W hW hk).wd.2.2.2.2.1 (by omega) (by omega)
  exact ⟨_, n2, by omega, by omega, key.trans f3, H2, fr⟩
theorem itR {s : Nat} {x1 x2 : Int} {t : Nat → Int} (hW : tW0 t) : ∀ (m k n : Nat) (r : Nat × Int) (g : yH), m + k = 16 → 3 < k → 8 * m + 28 ≤ n → hvn s t g →
    ∃ g2 n2, 28 ≤ n2 ∧ xl_X12_winds n 32 [35, x1, x2, (r.1 : Int), r.2, (k : Int)] g = xl_X12_winds n2 32 [35, x1, x2, ((wFd t m k r).1 : Int), (wFd t m k r).2, 16] g2 ∧ hvn s t g2 ∧ ∀ a j, ¬ (a = 35 ∧ (j = 26 ∨ j = 27)) → g2 a j = g a j := by
  intro m
  induction m with
  | zero =>
    intro k n r g e1 e2 e3 H
    refine ⟨g, n, by omega, ?_, H, fun _ _ _ => rfl⟩
    rw [show k = 16 by omega]
    rfl
  | succ m ih =>
    intro k n r g e1 e2 e3 H
    obtain ⟨g2, n2, f1, f2, f3, f4, f5⟩ := stpR (x1 := x1) (x2 := x2) (r := r) (n := n) H hW (show k < 16 by omega) (Or.inr e2) (by omega)
    obtain ⟨g3, n3, k1, k2, k3, k4⟩ := ih (k + 1) n2 (wS t r k) g2 (by omega) (by omega) (by omega) f4
    exact ⟨g3, n3, k1, f3.trans k2, k3, fun a j w => (k4 a j w).trans (f5 a j w)⟩
/-- what winds answers -/
def wdV (t : Nat → Int) (w : Int) : Int := if w = 0 then (((wAll t).1 / 4 : Nat) : Int) else if w = 1 then (((wAll t).1 % 4 : Nat) : Int) else (wAll t).2
theorem wndR_l {s n : Nat} {x1 w : Int} {t : Nat → Int} {g : yH} (hW : tW0 t) (H : hvn s t g) (hn : 150 ≤ n) : yR (xl_X12_winds n 32 [35, x1, w, 0, -1, 0] g) (fun v g2 => v = wdV t w ∧ ∀ a j, ¬ (a = 35 ∧ (j = 26 ∨ j = 27)) → g2 a j = g a j) := by
  obtain ⟨g1, n1, a1, a2, a3, a4, a5⟩ := stpR (x1 := x1) (x2 := w) (r := (0, -1)) (n := n) (k := 0) H hW (by decide) (Or.inl rfl) (by omega)
  refine yR.e (r' := xl_X12_winds n1 32 [35, x1, w, ((wS t (0, -1) 0).1 : Int), (wS t (0, -1) 0).2, ((0 + 1 : Nat) : Int)] g1) a3 ?_
  obtain ⟨n1, rfl⟩ : ∃ n', n1 = n' + 3 := ⟨n1 - 3, by omega⟩
  obtain ⟨g2, n2, b1, b2, b3, b4⟩ := itR (x1 := x1) (x2 := w) hW 12 4 n1 (wS t (0, -1) 0) g1 (by decide) (by decide) (by omega) a4
  obtain ⟨n2, rfl⟩ : ∃ n', n2 = n' + 1 := ⟨n2 - 1, by omega⟩
  rw [show ((0 + 1 : Nat) : Int) = 1 from rfl, e_X12_winds_32, if_pos (by decide), if_neg (by decide), if_neg (by decide), xg_pos (by decide), show (1 : Int) + 1 = 2 from rfl, e_X12_winds_32, if_pos (by decide), if_neg (by decide), if_neg (by decide), xg_pos (by decide), show (2 : Int) + 1 = 3 from rfl, e_X12_winds_32, if_pos (by decide), if_neg (by decide), if_neg (by decide), xg_pos (by decide), show (3 : Int) + 1 = ((4 : Nat) : Int) from rfl, b2, show wFd t 12 4 (wS t (0, -1) 0) = wAll t from rfl, e_X12_winds_32, if_neg (by decide)]
  have q := wAll_b (t := t)
  obtain ⟨q3, q4⟩ := yqF16 ⟨(wAll t).1, q.1⟩
  simp only at q3 q4
  have fr : ∀ a j, ¬ (a = 35 ∧ (j = 26 ∨ j = 27)) → g2 a j = g a j := fun a j v => (b4 a j v).trans (a5 a j v)
  rw [q3, q4]
  unfold wdV
  by_cases c0 : w = 0
  · rw [if_pos c0, if_pos c0]
    exact yR.s ⟨rfl, fr⟩
  rw [if_neg c0, if_neg c0]
  by_cases c1 : w = 1
  · rw [if_pos c1, if_pos c1]
    exact yR.s ⟨rfl, fr⟩
  rw [if_neg c1, if_neg c1]
  exact yR.s ⟨rfl, fr⟩
theorem wndC_e {n s : Nat} {w : Int} {t : Nat → Int} {h : yH} (hn : 60 ≤ n) (hP : cP h) (hw : cPw h) (hb : h 6 0 ≤ 2) (hs : (s : Int) < h 6 0) (hS : cS (20 + 10 * s) t h) (hp : cSp (20 + 10 * s) h) (hW : tW0 t) (h2 : 0 ≤ w ∧ w ≤ 2) : yR (f_X11_winds n [1, (s : Int), w] h) (fun v h2 => v = wdV t w ∧ cPw h2 ∧ ∀ a j, a ≠ 150 → ¬ (160 ≤ a ∧ a ≤ 167) → h2 a j = h a j) := by
  obtain ⟨h3, e3, I⟩ := findWind_e (n := n) (b := 20 + 10 * s) hn hw (by omega) hS hp hW (by omega)
  obtain ⟨i1, i2, i3, i4, i5, i6⟩ := I
  have q := wAll_b (t := t)
  have p4 : h3 1 4 = 150 := by rw [i6 _ _ (by omega) (by omega)]; exact hw.1
  rw [e_X11_winds, xg_pos (hP.p (by decide)), findSea_e hP hb, xb_some, if_pos (show 0 ≤ (s : Int) ∧ (s : Int) < h 6 0 by omega), if_neg (by omega), if_neg (by omega), if_neg (by omega), xg_pos hw.1, xg_pos (by omega), show 20 + 10 * (s : Int) = ((20 + 10 * s : Nat) : Int) by omega, e3, xb_some]
  unfold wdV
  obtain ⟨j0, j1⟩ := i5 q.2
  by_cases c2 : w = 2
  · rw [if_pos c2, xg_pos p4, i4, if_neg (by omega), if_neg (by omega)]
    exact yR.s ⟨rfl, ⟨p4, i1, i2⟩, i6⟩
  rw [if_neg c2]
  by_cases c0 : w = 0
  · rw [if_pos c0, xg_pos p4, j0, if_pos c0]
    exact yR.s ⟨rfl, ⟨p4, i1, i2⟩, i6⟩
  rw [if_neg c0, xg_pos p4, j1, if_neg c0, if_pos (by omega)]
  exact yR.s ⟨rfl, ⟨p4, i1, i2⟩, i6⟩
/-- the class's cells beside what is told -/
theorem RR.hf {F : Prop} {h h2 g : yH} (R : RR F h g) (hL : lnI h) (hm : h 4 1 ≤ 600) (e : ∀ a j, a ≤ 114 ∨ 1000 ≤ a → h2 a j = h a j) : RR F h2 g := by
  obtain ⟨hP, gP, R0, RI0⟩ := R
  refine ⟨fun p hp => ?_, gP, R0.fr (fun a j w1 w2 => e a j (by omega)) (fun _ _ _ => rfl) ⟨rfl, rfl, rfl⟩ (fun _ _ _ => rfl) (fun _ _ _ => rfl) (fun _ _ _ => rfl) (fun _ _ _ => rfl) hm, RI0.fr hL (fun a j w => e a j (by omega)) (fun j => e 2 j (by omega)) (fun _ => rfl) (fun _ _ => rfl) (fun _ _ _ _ => rfl) (fun _ _ => rfl) (fun _ _ => rfl) (fun _ _ => rfl) (fun _ _ => rfl)⟩
  have : ∀ p ∈ cPL, p.1 ≤ 114 := by decide +kernel
  rw [e _ _ (Or.inl (this p hp))]
  exact hP p hp
end
section
/-! tells: how far a word gets -/
def bt (x : Int) (k : Nat) : Bool := decide (x / 2 ^ k % 2 = 1)
theorem orF0 : ∀ x y : Fin 64, yari 8 (x.val : Int) (y.val : Int) = ((x.val ||| y.val : Nat) : Int) := by decide +kernel
theorem orF1 : ∀ x y : Fin 64, (x.val ||| y.val) ≤ 63 ∧ (∀ k : Fin 6, bt ((x.val ||| y.val : Nat) : Int) k.val = (bt (x.val : Int) k.val || bt (y.val : Int) k.val)) ∧ ((x.val ||| y.val) = x.val ∨ bcn (x.val : Int) + 1 ≤ bcn ((x.val ||| y.val : Nat) : Int)) ∧ (∀ k : Fin 7, x.val < 2 ^ k.val → y.val < 2 ^ k.val → (x.val ||| y.val) < 2 ^ k.val) := by decide +kernel
theorem orF (x y : Fin 64) : (0 ≤ yari 8 (x.val : Int) (y.val : Int) ∧ yari 8 (x.val : Int) (y.val : Int) ≤ 63) ∧ (∀ k : Fin 6, bt (yari 8 (x.val : Int) (y.val : Int)) k.val = (bt (x.val : Int) k.val || bt (y.val : Int) k.val)) ∧ (yari 8 (x.val : Int) (y.val : Int) = (x.val : Int) ∨ bcn (x.val : Int) + 1 ≤ bcn (yari 8 (x.val : Int) (y.val : Int))) ∧ (∀ k : Fin 7, x.val < 2 ^ k.val → y.val < 2 ^ k.val → yari 8 (x.val : Int) (y.val : Int) < 2 ^ k.val) := by
  obtain ⟨h1, h2, h3, h4⟩ := orF1 x y
  rw [orF0 x y]
  refine ⟨⟨Int.natCast_nonneg _, by omega⟩, h2, h3.imp (fun w => by rw [w]) (fun w => w), fun k w1 w2 => ?_⟩
  have := h4 k w1 w2
  have e : ((2 : Int) ^ k.val) = ((2 ^ k.val : Nat) : Int) := by rw [Int.natCast_pow]; rfl
  rw [e]
  exact Int.ofNat_lt.mpr this
theorem or_b {x y : Int} (hx : 0 ≤ x ∧ x ≤ 63) (hy : 0 ≤ y ∧ y ≤ 63) : (0 ≤ yari 8 x y ∧ yari 8 x y ≤ 63) ∧ (∀ k, k < 6 → bt (yari 8 x y) k = (bt x k || bt y k)) ∧ (yari 8 x y = x ∨ bcn x + 1 ≤ bcn (yari 8 x y)) ∧ ∀ k : Nat, k ≤ 6 → x < 2 ^ k → y < 2 ^ k → yari 8 x y < 2 ^ k := by
  obtain ⟨c, rfl⟩ : ∃ c : Fin 64, x = (c.val : Int) := ⟨⟨x.toNat, by omega⟩, by simp only; omega⟩
  obtain ⟨d, rfl⟩ : ∃ d : Fin 64, y = (d.val : Int) := ⟨⟨y.toNat, by omega⟩, by simp only; omega⟩
  obtain ⟨h1, h2, h3, h4⟩ := orF c d
  refine ⟨h1, fun k hk => h2 ⟨k, hk⟩, h3, fun k hk w1 w2 => h4 ⟨k, by omega⟩ ?_ ?_⟩
  · have : ((c.val : Nat) : Int) < ((2 ^ k : Nat) : Int) := by rw [Int.natCast_pow]; exact w1
    exact Int.ofNat_lt.mp this
  · have : ((d.val : Nat) : Int) < ((2 ^ k : Nat) : Int) := by rw [Int.natCast_pow]; exact w2
    exact Int.ofNat_lt.mp this
theorem bitF : ∀ x : Fin 64, (∀ k : Fin 7, (x.val : Int) < 2 ^ k.val → bcn (x.val : Int) ≤ (k.val : Int) ∧ ∀ j : Fin 6, k.val ≤ j.val → bt (x.val : Int) j.val = false) ∧ (∀ k : Fin 6, (decide (yari 7 (yari 6 (x.val : Int) (k.val : Int)) 1 = 1)) = bt (x.val : Int) k.val) := by decide +kernel
theorem bit_b {x : Int} (hx : 0 ≤ x ∧ x ≤ 63) : (∀ k : Nat, k ≤ 6 → x < 2 ^ k → bcn x ≤ (k : Int) ∧ ∀ j, j < 6 → k ≤ j → bt x j = false) ∧ ∀ k : Nat, k < 6 → (yari 7 (yari 6 x (k : Int)) 1 = 1 ↔ bt x k = true) := by
  obtain ⟨c, rfl⟩ : ∃ c : Fin 64, x = (c.val : Int) := ⟨⟨x.toNat, by omega⟩, by simp only; omega⟩
  obtain ⟨h1, h2⟩ := bitF c
  refine ⟨fun k hk w => ?_, fun k hk => ?_⟩
  · obtain ⟨a, b⟩ := h1 ⟨k, by omega⟩ w
    exact ⟨a, fun j hj w2 => b ⟨j, hj⟩ w2⟩
  · rw [← h2 ⟨k, hk⟩, decide_eq_true_iff]
theorem shF : ∀ a : Fin 6, (0 ≤ yari 5 1 (a.val : Int) ∧ yari 5 1 (a.val : Int) ≤ 63) ∧ bcn (yari 5 1 (a.val : Int)) = 1 ∧ (∀ k : Fin 7, a.val < k.val → yari 5 1 (a.val : Int) < 2 ^ k.val) ∧ ∀ k : Fin 6, bt (yari 5 1 (a.val : Int)) k.val = decide (k.val = a.val) := by decide +kernel
theorem setF : ∀ x : Fin 64, ∀ k : Fin 6, (x.val : Int) < 2 ^ k.val → yari 8 (x.val : Int) (yari 5 1 (k.val : Int)) < 2 ^ (k.val + 1) := by decide +kernel
theorem p2F : ∀ k : Fin 6, ∀ j : Fin 7, k.val ≤ j.val → (2 : Int) ^ k.val ≤ 2 ^ j.val := by decide +kernel
theorem hst_p {u : Nat → Int} {fr vo : Int} {a : Nat} : ∀ k, k ≤ 6 → hst u fr vo a k < 2 ^ k := by
  intro k
  induction k with
  | zero => intro _; exact (by decide : (0 : Int) < 1)
  | succ k ih =>
    intro hk
    have h1 := ih (by omega)
    have hb := hst_b (u := u) (fr := fr) (vo := vo) (a := a) k (by omega)
    cases e : hq u fr vo a k with
    | false =>
      rw [hst_f e]
      have := p2F ⟨k, by omega⟩ ⟨k + 1, by omega⟩ (Nat.le_succ k)
      simp only at this
      omega
    | true =>
      rw [hst_t e]
      have := setF ⟨(hst u fr vo a k).toNat, by omega⟩ ⟨k, by omega⟩
      simp only at this
      rw [show (((hst u fr vo a k).toNat : Nat) : Int) = hst u fr vo a k by omega] at this
      exact this h1
theorem hrs_p {u : Nat → Int} {a : Nat} (hW : tW0 u) : hrs u a < 2 ^ (u 6).toNat := hst_p _ (by have := hW.wd; omega)
/-- all who hear one of those -/
def hfA (u : Nat → Int) (x : Int) : Nat → Nat → Int → Int
  | 0, _, a => a
  | m + 1, k, a => if (k : Int) < u 6 then (if bt x k = true then hfA u x m (k + 1) (yari 8 a (hrs u k)) else hfA u x m (k + 1) a) else a
def hfa (u : Nat → Int) (x : Int) : Int := hfA u x 7 0 0
theorem hfA_b {u : Nat → Int} {x : Int} (hW : tW0 u) : ∀ (m k : Nat) (a : Int), 0 ≤ a ∧ a ≤ 63 → (0 ≤ hfA u x m k a ∧ hfA u x m k a ≤ 63) ∧ (a < 2 ^ (u 6).toNat → hfA u x m k a < 2 ^ (u 6).toNat) ∧ (7 ≤ m + k → ∀ c, c < 6 → (bt (hfA u x m k a) c = true ↔ bt a c = true ∨ ∃ b, k ≤ b ∧ (b : Int) < u 6 ∧ bt x b = true ∧ bt (hrs u b) c = true)) := by
  have w6 := hW.wd.2.2.2.2
  intro m
  induction m with
  | zero =>
    intro k a ha
    refine ⟨ha, fun h => h, fun w c hc => ⟨fun h => Or.inl h, fun h => h.elim (fun h => h) (fun ⟨b, b1, b2, _⟩ => by omega)⟩⟩
  | succ m ih =>
    intro k a ha
    by_cases c : (k : Int) < u 6
    · cases e : bt x k with
      | false =>
        have eA : hfA u x (m + 1) k a = hfA u x m (k + 1) a := by
          show (if (k : Int) < u 6 then (if bt x k = true then hfA u x m (k + 1) (yari 8 a (hrs u k)) else hfA u x m (k + 1) a) else a) = _
          rw [if_pos c, e, if_neg (by decide)]
        rw [eA]
        obtain ⟨i1, i2, i3⟩ := ih (k + 1) a ha
        refine ⟨i1, i2, fun w c' hc' => (i3 (by omega) c' hc').trans ⟨fun h => h.imp (fun h => h) (fun ⟨b, b1, b2⟩ => ⟨b, by omega, b2⟩), fun h => h.imp (fun h => h) (fun ⟨b, b1, b2, b3, b4⟩ => ⟨b, ?_, b2, b3, b4⟩)⟩⟩
        have : b ≠ k := fun q => by rw [q, e] at b3; cases b3
        omega
      | true =>
        have eA : hfA u x (m + 1) k a = hfA u x m (k + 1) (yari 8 a (hrs u k)) := by
          show (if (k : Int) < u 6 then (if bt x k = true then hfA u x m (k + 1) (yari 8 a (hrs u k)) else hfA u x m (k + 1) a) else a) = _
          rw [if_pos c, e, if_pos rfl]
        rw [eA]
        obtain ⟨o1, o2, o3, o4⟩ := or_b ha (hrs_b (a := k) hW)
        obtain ⟨i1, i2, i3⟩ := ih (k + 1) _ o1
        refine ⟨i1, fun w => i2 (o4 _ (by omega) w (hrs_p hW)), fun w c' hc' => (i3 (by omega) c' hc').trans ⟨fun h => ?_, fun h => ?_⟩⟩
        · rcases h with h | ⟨b, b1, b2⟩
          · rw [o2 c' hc', Bool.or_eq_true] at h
            exact h.imp (fun h => h) (fun h => ⟨k, by omega, c, e, h⟩)
          · exact Or.inr ⟨b, by omega, b2⟩
        · rcases h with h | ⟨b, b1, b2, b3, b4⟩
          · exact Or.inl (by rw [o2 c' hc', h, Bool.true_or])
          · by_cases q : b = k
            · rw [q] at b4
              exact Or.inl (by rw [o2 c' hc', b4, Bool.or_true])
            · exact Or.inr ⟨b, by omega, b2, b3, b4⟩
    · have eA : hfA u x (m + 1) k a = a := if_neg c
      rw [eA]
      exact ⟨ha, fun h => h, fun w c' hc' => ⟨fun h => Or.inl h, fun h => h.elim (fun h => h) (fun ⟨b, b1, b2, _⟩ => by omega)⟩⟩
theorem hfa_b {u : Nat → Int} {x : Int} (hW : tW0 u) : (0 ≤ hfa u x ∧ hfa u x ≤ 63) ∧ hfa u x < 2 ^ (u 6).toNat ∧ ∀ c, c < 6 → (bt (hfa u x) c = true ↔ ∃ b : Nat, (b : Int) < u 6 ∧ bt x b = true ∧ bt (hrs u b) c = true) := by
  obtain ⟨i1, i2, i3⟩ := hfA_b (x := x) hW 7 0 0 (by decide)
  refine ⟨i1, i2 ?_, fun c hc => (i3 (by decide) c hc).trans ⟨fun h => ?_, fun ⟨b, b2⟩ => Or.inr ⟨b, Nat.zero_le _, b2⟩⟩⟩
  · exact Int.pow_pos (by decide)
  · rcases h with h | ⟨b, _, b2⟩
    · have : ∀ c : Fin 6, bt 0 c.val = false := by decide +kernel
      have := this ⟨c, hc⟩
      simp only at this
      rw [this] at h
      cases h
    · exact ⟨b, b2⟩
theorem heard_l {b : Nat} {x : Int} {u : Nat → Int} {h : yH} (hx : 0 ≤ x ∧ x ≤ 63) (hS : cS b u h) (hp : cSp b h) (hW : tW0 u) : ∀ (m k n : Nat) (a : Int), 7 - k = m → (k : Int) ≤ u 6 → m + 7 ≤ n → xl_X10_heardFromAny n 4 [(b : Int), x, a, (k : Int)] h = some (hfA u x m k a, h) := by
  have w6 := hW.wd.2.2.2.2
  intro m
  induction m with
  | zero => intro k n a e1 e2; omega
  | succ m ih =>
    intro k n a e1 e2 e3
    obtain ⟨n, rfl⟩ : ∃ n', n = n' + 1 := ⟨n - 1, by omega⟩
    rw [e_X10_heardFromAny_4, Int.toNat_natCast, hS.2.2.2.2.2.2.1]
    show _ = some (if (k : Int) < u 6 then (if bt x k = true then hfA u x m (k + 1) (yari 8 a (hrs u k)) else hfA u x m (k + 1) a) else a, h)
    by_cases c : (k : Int) < u 6
    · have q := (bit_b hx).2 k (by omega)
      rw [if_pos c, if_pos c]
      by_cases c2 : bt x k = true
      · rw [if_pos (q.mpr c2), if_pos c2, asTold_e (by omega) hS hp hW c, xb_some, xg_pos (by omega), show (k : Int) + 1 = ((k + 1 : Nat) : Int) by omega, ih (k + 1) n _ (by omega) (by omega) (by omega)]
      · rw [if_neg (fun w => c2 (q.mp w)), if_neg c2, xg_pos (by omega), show (k : Int) + 1 = ((k + 1 : Nat) : Int) by omega, ih (k + 1) n _ (by omega) (by omega) (by omega)]
    · rw [if_neg c, if_neg c]
theorem heard_e {n b : Nat} {x : Int} {u : Nat → Int} {h : yH} (hn : 14 ≤ n) (hx : 0 ≤ x ∧ x ≤ 63) (hS : cS b u h) (hp : cSp b h) (hW : tW0 u) : f_X10_heardFromAny n [(b : Int), x] h = some (hfa u x, h) := by
  rw [e_X10_heardFromAny]
  exact heard_l hx hS hp hW 7 0 n 0 rfl hW.wd.2.2.2.2.1 hn
/-- who is reached with n that pass it on -/
def rsN (u : Nat → Int) (a : Nat) : Nat → Int
  | 0 => yari 5 1 (a : Int)
  | n + 1 => yari 8 (rsN u a n) (hfa u (rsN u a n))
theorem rsN_b {u : Nat → Int} {a : Nat} (hW : tW0 u) (ha : (a : Int) < u 6) : ∀ n, (0 ≤ rsN u a n ∧ rsN u a n ≤ 63) ∧ rsN u a n < 2 ^ (u 6).toNat := by
  have w6 := hW.wd.2.2.2.2
  intro n
  induction n with
  | zero =>
    obtain ⟨s1, s2, s3, s4⟩ := shF ⟨a, by omega⟩
    exact ⟨s1, s3 ⟨(u 6).toNat, by omega⟩ (by show a < (u 6).toNat; omega)⟩
  | succ n ih =>
    obtain ⟨f1, f2, f3⟩ := hfa_b (x := rsN u a n) hW
    obtain ⟨o1, o2, o3, o4⟩ := or_b ih.1 f1
    exact ⟨o1, o4 _ (by omega) ih.2 f2⟩
theorem rsN_s {u : Nat → Int} {a : Nat} (hW : tW0 u) (ha : (a : Int) < u 6) (n : Nat) {c : Nat} (hc : c < 6) : bt (rsN u a (n + 1)) c = true ↔ bt (rsN u a n) c = true ∨ ∃ b : Nat, (b : Int) < u 6 ∧ bt (rsN u a n) b = true ∧ bt (hrs u b) c = true := by
  obtain ⟨f1, f2, f3⟩ := hfa_b (x := rsN u a n) hW
  obtain ⟨o1, o2, o3, o4⟩ := or_b (rsN_b hW ha n).1 f1
  show bt (yari 8 (rsN u a n) (hfa u (rsN u a n))) c = true ↔ _
  rw [o2 c hc, Bool.or_eq_true, f3 c hc]
theorem rsN_more {u : Nat → Int} {a : Nat} (hW : tW0 u) (ha : (a : Int) < u 6) : ∀ n, (∃ m, m < n ∧ rsN u a (m + 1) = rsN u a m) ∨ (n : Int) + 1 ≤ bcn (rsN u a n) := by
  have w6 := hW.wd.2.2.2.2
  intro n
  induction n with
  | zero =>
    obtain ⟨s1, s2, s3, s4⟩ := shF ⟨a, by omega⟩
    refine Or.inr ?_
    show ((0 : Nat) : Int) + 1 ≤ bcn (yari 5 1 (a : Int))
    simp only at s2
    rw [s2]
    decide
  | succ n ih =>
    rcases ih with ⟨m, m1, m2⟩ | ih
    · exact Or.inl ⟨m, by omega, m2⟩
    · obtain ⟨f1, f2, f3⟩ := hfa_b (x := rsN u a n) hW
      obtain ⟨o1, o2, o3, o4⟩ := or_b (rsN_b hW ha n).1 f1
      rcases o3 with o3 | o3
      · exact Or.inl ⟨n, by omega, o3⟩
      · refine Or.inr ?_
        show ((n + 1 : Nat) : Int) + 1 ≤ bcn (yari 8 (rsN u a n) (hfa u (rsN u a n)))
        omega
theorem rsN_fix {u : Nat → Int} {a m : Nat} (h : rsN u a (m + 1) = rsN u a m) : ∀ d, rsN u a (m + d) = rsN u a m := by
  intro d
  induction d with
  | zero => rfl
  | succ d ih =>
    show yari 8 (rsN u a (m + d)) (hfa u (rsN u a (m + d))) = _
    rw [ih]
    exact h
theorem rsN_6 {u : Nat → Int} {a : Nat} (hW : tW0 u) (ha : (a : Int) < u 6) : rsN u a 6 = rsN u a (u 6).toNat := by
  have w6 := hW.wd.2.2.2.2
  obtain ⟨b1, b2⟩ := rsN_b hW ha (u 6).toNat
  have q := ((bit_b b1).1 (u 6).toNat (by omega) b2).1
  rcases rsN_more hW ha (u 6).toNat with ⟨m, m1, m2⟩ | w
  · have f := rsN_fix m2
    have f1 := f (6 - m)
    have f2 := f ((u 6).toNat - m)
    rw [show m + (6 - m) = 6 by omega] at f1
    rw [show m + ((u 6).toNat - m) = (u 6).toNat by omega] at f2
    rw [f1, f2]
  · omega
theorem reach_l {b a : Nat} {u : Nat → Int} {h : yH} (hS : cS b u h) (hp : cSp b h) (hW : tW0 u) (ha : (a : Int) < u 6) : ∀ (m k n : Nat), 6 - k = m → k ≤ 6 → m + 16 ≤ n → xl_X10_reachedOthers n 7 [150, (b : Int), (a : Int), rsN u a k, (k : Int)] h = some (bcn (rsN u a 6) - 1, h) := by
  intro m
  induction m with
  | zero =>
    intro k n e1 e2 e3
    obtain ⟨n, rfl⟩ : ∃ n', n = n' + 1 := ⟨n - 1, by omega⟩
    have q := bcn_b (x := rsN u a 6)
    rw [show k = 6 by omega, e_X10_reachedOthers_7, if_neg (by decide), bc_e (rsN_b hW ha 6).1, xb_some, xg_pos (by omega)]
  | succ m ih =>
    intro k n e1 e2 e3
    obtain ⟨n, rfl⟩ : ∃ n', n = n' + 1 := ⟨n - 1, by omega⟩
    rw [e_X10_reachedOthers_7, if_pos (by omega), heard_e (by omega) (rsN_b hW ha k).1 hS hp hW, xb_some, xg_pos (by omega), show (k : Int) + 1 = ((k + 1 : Nat) : Int) by omega]
    exact ih (k + 1) n (by omega) (by omega) (by omega)
/-- what tells answers of a boat that is there -/
def telV (t : Nat → Int) (x : Int) : Int := if 0 ≤ x ∧ x < t 6 then bcn (rsN t x.toNat 6) - 1 else -1
theorem tellsC_e {n s : Nat} {x : Int} {t : Nat → Int} {h : yH} (hn : 30 ≤ n) (hP : cP h) (hw : cPw h) (hb : h 6 0 ≤ 2) (hs : (s : Int) < h 6 0) (hS : cS (20 + 10 * s) t h) (hp : cSp (20 + 10 * s) h) (hW : tW0 t) : f_X11_tells n [1, (s : Int), x] h = some (telV t x, h) := by
  rw [e_X11_tells, xg_pos (hP.p (by decide)), findSea_e hP hb, xb_some, if_pos (show 0 ≤ (s : Int) ∧ (s : Int) < h 6 0 by omega), if_neg (by omega), xg_pos (by omega), show 20 + 10 * (s : Int) = ((20 + 10 * s : Nat) : Int) by omega, hasBoat_e hS, xb_some]
  unfold telV
  by_cases c : 0 ≤ x ∧ x < t 6
  · obtain ⟨a, rfl⟩ : ∃ a : Nat, x = (a : Int) := ⟨x.toNat, by omega⟩
    rw [if_pos c, if_neg (by decide), xg_pos hw.1, xg_pos (by omega), e_X10_reachedOthers, if_pos c, Int.toNat_natCast]
    have := reach_l hS hp hW c.2 6 0 n rfl (by decide) (by omega)
    rw [show ((0 : Nat) : Int) = 0 from rfl] at this
    rw [show yari 5 1 (a : Int) = rsN t a 0 from rfl, this, xb_some]
  · rw [if_neg c, if_pos rfl, if_neg c]
end
section
/-! tells: the reference -/
theorem sH.fq {s : Nat} {t : Nat → Int} {g g2 : yH} (H : sH s t g) (e : ∀ a j, a ≠ 12 → g2 a j = g a j) : sH s t g2 := H.fr (fun a j w => e a j (by omega))
theorem hv.fq {s : Nat} {t u : Nat → Int} {g g2 : yH} (H : hv s t u g) (e : ∀ a j, a ≠ 12 → g2 a j = g a j) : hv s t u g2 := by
  obtain ⟨h1, h2, h3, h4, h5, h6, h7, h8⟩ := H
  exact ⟨h1.fq e, h2, by rw [e _ _ (by omega)]; exact h3, by rw [e _ _ (by omega)]; exact h4, by rw [e _ _ (by omega)]; exact h5, by rw [e _ _ (by omega)]; exact h6, by rw [e _ _ (by omega)]; exact h7, fun i hi => by rw [e _ _ (by omega), e _ _ (by omega)]; exact h8 i hi⟩
/-- one who speaks: who hears it for the first time -/
theorem pas_74 {s : Nat} {x1 set : Int} {t u : Nat → Int} {r b : Nat} (hW : tW0 u) (hset : 0 ≤ set ∧ set ≤ 63) (hr : r < 7) (hb : b < 7) : ∀ (m k n : Nat) (g : yH), 7 - k = m → (k : Int) ≤ u 6 → m + 12 ≤ n → hv s t u g →
    ∃ g2 n2, n ≤ n2 + m ∧ xl_X12_passOn n 74 [35, x1, (r : Int), (b : Int), set, (k : Int)] g = xl_X12_passOn n2 42 [35, x1, (r : Int), ((b + 1 : Nat) : Int)] g2 ∧ (∀ a j, a ≠ 12 → g2 a j = g a j) ∧ ∀ c : Nat, ((c : Int) < u 6 ∧ k ≤ c ∧ bt set c = true ∧ g 12 c = -1 → g2 12 c = (r : Int) + 1) ∧ (¬ ((c : Int) < u 6 ∧ k ≤ c ∧ bt set c = true ∧ g 12 c = -1) → g2 12 c = g 12 c) := by
  have w6 := hW.wd.2.2.2.2
  intro m
  induction m with
  | zero => intro k n g e1 e2; omega
  | succ m ih =>
    intro k n g e1 e2 e3 H
    obtain ⟨n, rfl⟩ : ∃ n', n = n' + 1 := ⟨n - 1, by omega⟩
    have p32 : g 35 32 = 12 := H.1.2.2.2.p (j := 32) (k := 12) (by decide)
    by_cases c : (k : Int) < u 6
    · have q := (bit_b hset).2 k (by omega)
      -- what stays as it was
      have same : ∀ (g1 : yH), g1 = zup g 12 k (g 12 k) → ¬ (bt set k = true ∧ g 12 k = -1) → xl_X12_passOn (n + 1) 74 [35, x1, (r : Int), (b : Int), set, (k : Int)] g = xl_X12_passOn n 74 [35, x1, (r : Int), (b : Int), set, ((k + 1 : Nat) : Int)] g1 → ∃ g2 n2, n + 1 ≤ n2 + (m + 1) ∧ xl_X12_passOn (n + 1) 74 [35, x1, (r : Int), (b : Int), set, (k : Int)] g = xl_X12_passOn n2 42 [35, x1, (r : Int), ((b + 1 : Nat) : Int)] g2 ∧ (∀ a j, a ≠ 12 → g2 a j = g a j) ∧ ∀ c : Nat, ((c : Int) < u 6 ∧ k ≤ c ∧ bt set c = true ∧ g 12 c = -1 → g2 12 c = (r : Int) + 1) ∧ (¬ ((c : Int) < u 6 ∧ k ≤ c ∧ bt set c = true ∧ g 12 c = -1) → g2 12 c = g 12 c) := by
        intro g1 eg hno key
        have eg2 : ∀ a j, g1 a j = g a j := fun a j => by
          rw [eg]
          by_cases w : a = 12 ∧ j = k
          · rw [w.1, w.2, zup_at]
          · rw [zup_ne w]
        obtain ⟨g2, n2, f1, f2, f3, f4⟩ := ih (k + 1) n g1 (by omega) (by omega) (by omega) (H.fq (fun a j _ => eg2 a j))
        refine ⟨g2, n2, by omega, key.trans f2, fun a j w => (f3 a j w).trans (eg2 a j), fun c' => ?_⟩
        obtain ⟨k1, k2⟩ := f4 c'
        rw [eg2] at k1 k2
        refine ⟨fun ⟨v1, v2, v3, v4⟩ => k1 ⟨v1, ?_, v3, v4⟩, fun w => k2 (fun ⟨v1, v2, v3, v4⟩ => w ⟨v1, by omega, v3, v4⟩)⟩
        have : c' ≠ k := fun e => by rw [e] at v3 v4; exact hno ⟨v3, v4⟩
        omega
      by_cases c2 : bt set k = true
      · have q2 := q.mpr c2
        by_cases c3 : g 12 k = -1
        · have key : xl_X12_passOn (n + 1) 74 [35, x1, (r : Int), (b : Int), set, (k : Int)] g = xl_X12_passOn n 74 [35, x1, (r : Int), (b : Int), set, ((k + 1 : Nat) : Int)] (zup g 12 k ((r : Int) + 1)) := by
            rw [e_X12_passOn_74, H.2.2.2.2.2.2.1, if_pos c, xg_pos p32, e_X12_isIn, if_pos q2, xb_some, if_neg (by decide), xg_pos p32, xg_pos (by omega), Int.toNat_natCast, if_pos c3, xg_pos (by omega), xg_pos (by omega), xg_pos (by omega), show (k : Int) + 1 = ((k + 1 : Nat) : Int) by omega]
          obtain ⟨g2, n2, f1, f2, f3, f4⟩ := ih (k + 1) n (zup g 12 k ((r : Int) + 1)) (by omega) (by omega) (by omega) (H.fq (fun a j w => zup_ne (by omega)))
          refine ⟨g2, n2, by omega, key.trans f2, fun a j w => (f3 a j w).trans (zup_ne (by omega)), fun c' => ?_⟩
          obtain ⟨k1, k2⟩ := f4 c'
          by_cases w : c' = k
          · subst w
            rw [zup_at] at k1 k2
            exact ⟨fun _ => k2 (fun v => by omega), fun v => absurd ⟨c, Nat.le_refl _, c2, c3⟩ v⟩
          · rw [zup_ne (by omega)] at k1 k2
            exact ⟨fun ⟨v1, v2, v3, v4⟩ => k1 ⟨v1, by omega, v3, v4⟩, fun v => k2 (fun ⟨v1, v2, v3, v4⟩ => v ⟨v1, by omega, v3, v4⟩)⟩
        · refine same _ rfl (fun w => c3 w.2) ?_
          rw [e_X12_passOn_74, H.2.2.2.2.2.2.1, if_pos c, xg_pos p32, e_X12_isIn, if_pos q2, xb_some, if_neg (by decide), xg_pos p32, xg_pos (by omega), Int.toNat_natCast, if_neg c3, xg_pos p32, xg_pos (by omega), xg_pos (by omega), xg_pos (by omega), show (k : Int) + 1 = ((k + 1 : Nat) : Int) by omega]
      · refine same _ rfl (fun w => c2 w.1) ?_
        rw [e_X12_passOn_74, H.2.2.2.2.2.2.1, if_pos c, xg_pos p32, e_X12_isIn, if_neg (fun w => c2 (q.mp w)), xb_some, if_pos rfl, xg_pos p32, xg_pos (by omega), xg_pos (by omega), Int.toNat_natCast, xg_pos (by omega), show (k : Int) + 1 = ((k + 1 : Nat) : Int) by omega]
    · refine ⟨g, n, by omega, ?_, fun _ _ _ => rfl, fun c' => ⟨fun ⟨v1, v2, _⟩ => by omega, fun _ => rfl⟩⟩
      rw [e_X12_passOn_74, H.2.2.2.2.2.2.1, if_neg c, xg_pos (by omega), show (b : Int) + 1 = ((b + 1 : Nat) : Int) by omega]
/-- a round: all who heard it last speak -/
theorem pas_42 {s : Nat} {x1 : Int} {t u : Nat → Int} {r : Nat} (hW : tW0 u) (hr : r < 7) : ∀ (m b n : Nat) (g : yH), 7 - b = m → (b : Int) ≤ u 6 → 9 * m + 20 ≤ n → hv s t u g →
    ∃ g2 n2, n ≤ n2 + 9 * m ∧ xl_X12_passOn n 42 [35, x1, (r : Int), (b : Int)] g = xl_X12_passOn n2 32 [35, x1, ((r + 1 : Nat) : Int)] g2 ∧ (∀ a j, a ≠ 12 → g2 a j = g a j) ∧ ∀ c : Nat, (g 12 c ≠ -1 → g2 12 c = g 12 c) ∧ ((c : Int) < u 6 → g 12 c = -1 → (∃ b' : Nat, b ≤ b' ∧ (b' : Int) < u 6 ∧ g 12 b' = (r : Int) ∧ bt (hrs u b') c = true) → g2 12 c = (r : Int) + 1) ∧ (g 12 c = -1 → (∀ b' : Nat, b ≤ b' → (b' : Int) < u 6 → g 12 b' = (r : Int) → bt (hrs u b') c = false) → g2 12 c = -1) := by
  have w6 := hW.wd.2.2.2.2
  intro m
  induction m with
  | zero => intro b n g e1 e2; omega
  | succ m ih =>
    intro b n g e1 e2 e3 H
    obtain ⟨n, rfl⟩ : ∃ n', n = n' + 1 := ⟨n - 1, by omega⟩
    have p32 : g 35 32 = 12 := H.1.2.2.2.p (j := 32) (k := 12) (by decide)
    by_cases c : (b : Int) < u 6
    · by_cases c2 : g 12 b = (r : Int)
      · have key : xl_X12_passOn (n + 1) 42 [35, x1, (r : Int), (b : Int)] g = xl_X12_passOn n 74 [35, x1, (r : Int), (b : Int), hrs u b, ((0 : Nat) : Int)] g := by
          rw [e_X12_passOn_42, H.2.2.2.2.2.2.1, if_pos c, xg_pos p32, xg_pos (by omega), Int.toNat_natCast, if_pos c2, hearersOf_e (by omega) H hW c, xb_some]
          rfl
        obtain ⟨g1, n1, f1, f2, f3, f4⟩ := pas_74 (x1 := x1) (r := r) (b := b) hW (hrs_b (a := b) hW) hr (by omega) 7 0 n g rfl w6.1 (by omega) H
        obtain ⟨g2, n2, k1, k2, k3, k4⟩ := ih (b + 1) n1 g1 (by omega) (by omega) (by omega) (H.fq f3)
        refine ⟨g2, n2, by omega, key.trans (f2.trans k2), fun a j w => (k3 a j w).trans (f3 a j w), fun c' => ?_⟩
        have keep : ∀ b' : Nat, g1 12 b' = (r : Int) ↔ g 12 b' = (r : Int) := fun b' => by
          obtain ⟨z1, z2⟩ := f4 b'
          by_cases w : (b' : Int) < u 6 ∧ 0 ≤ b' ∧ bt (hrs u b) b' = true ∧ g 12 b' = -1
          · have := z1 w
            have := w.2.2.2
            constructor <;> intro _ <;> omega
          · rw [z2 w]
        obtain ⟨z1, z2⟩ := f4 c'
        obtain ⟨y1, y2, y3⟩ := k4 c'
        refine ⟨fun w => ?_, fun w0 w1 w2 => ?_, fun w1 w2 => ?_⟩
        · have e : g1 12 c' = g 12 c' := z2 (fun v => w v.2.2.2)
          rw [y1 (by rw [e]; exact w), e]
        · by_cases hb2 : bt (hrs u b) c' = true
          · have e : g1 12 c' = (r : Int) + 1 := z1 ⟨w0, Nat.zero_le _, hb2, w1⟩
            rw [y1 (by rw [e]; omega), e]
          · have e : g1 12 c' = g 12 c' := z2 (fun v => hb2 v.2.2.1)
            obtain ⟨b', v1, v2, v3, v4⟩ := w2
            refine y2 w0 (by rw [e]; exact w1) ⟨b', ?_, v2, (keep b').mpr v3, v4⟩
            have : b' ≠ b := fun q => by rw [q] at v4; exact hb2 v4
            omega
        · have hb2 : bt (hrs u b) c' = false := w2 b (Nat.le_refl _) c c2
          have e : g1 12 c' = g 12 c' := z2 (fun v => by rw [hb2] at v; cases v.2.2.1)
          exact y3 (by rw [e]; exact w1) (fun b' v1 v2 v3 => w2 b' (by omega) v2 ((keep b').mp v3))
      · have key : xl_X12_passOn (n + 1) 42 [35, x1, (r : Int), (b : Int)] g = xl_X12_passOn n 74 [35, x1, (r : Int), (b : Int), 0, ((0 : Nat) : Int)] g := by
          rw [e_X12_passOn_42, H.2.2.2.2.2.2.1, if_pos c, xg_pos p32, xg_pos (by omega), Int.toNat_natCast, if_neg c2]
          rfl
        obtain ⟨g1, n1, f1, f2, f3, f4⟩ := pas_74 (x1 := x1) (r := r) (b := b) hW (show (0 : Int) ≤ 0 ∧ (0 : Int) ≤ 63 by decide) hr (by omega) 7 0 n g rfl w6.1 (by omega) H
        obtain ⟨g2, n2, k1, k2, k3, k4⟩ := ih (b + 1) n1 g1 (by omega) (by omega) (by omega) (H.fq f3)
        have z : ∀ j : Nat, j < 6 → bt 0 j = false := fun j hj => by
          have : ∀ c : Fin 6, bt 0 c.val = false := by decide +kernel
          exact this ⟨j, hj⟩
        have e : ∀ c' : Nat, g1 12 c' = g 12 c' := fun c' => (f4 c').2 (fun v => by
          have := z c' (by omega)
          rw [this] at v
          cases v.2.2.1)
        refine ⟨g2, n2, by omega, key.trans (f2.trans k2), fun a j w => (k3 a j w).trans (f3 a j w), fun c' => ?_⟩
        obtain ⟨y1, y2, y3⟩ := k4 c'
        rw [e] at y1 y2 y3
        refine ⟨y1, fun w0 w1 ⟨b', v1, v2, v3, v4⟩ => y2 w0 w1 ⟨b', ?_, v2, by rw [e]; exact v3, v4⟩, fun w1 w2 => y3 w1 (fun b' v1 v2 v3 => w2 b' (by omega) v2 (by rw [← e]; exact v3))⟩
        have : b' ≠ b := fun q => by rw [q] at v3; exact c2 v3
        omega
    · refine ⟨g, n, by omega, ?_, fun _ _ _ => rfl, fun c' => ⟨fun _ => rfl, fun w0 w1 ⟨b', v1, v2, _⟩ => by omega, fun w _ => w⟩⟩
      rw [e_X12_passOn_42, H.2.2.2.2.2.2.1, if_neg c, xg_pos (by omega), show (r : Int) + 1 = ((r + 1 : Nat) : Int) by omega]
/-- after r rounds -/
def pI (u : Nat → Int) (a r : Nat) (g : yH) : Prop := g 12 a = 0 ∧ ∀ c : Nat, (c : Int) < u 6 → (g 12 c ≠ -1 ↔ bt (rsN u a r) c = true) ∧ (g 12 c = -1 ∨ (0 ≤ g 12 c ∧ g 12 c ≤ (r : Int))) ∧ (c ≠ a → g 12 c ≠ 0) ∧ ∀ b : Nat, (b : Int) < u 6 → g 12 b ≠ -1 → g 12 b < (r : Int) → bt (hrs u b) c = true → g 12 c ≠ -1
theorem pas_32 {s a : Nat} {t u : Nat → Int} (hW : tW0 u) (ha : (a : Int) < u 6) : ∀ (m r n : Nat) (g : yH), 7 - r = m → (r : Int) ≤ u 6 → 70 * m + 90 ≤ n → hv s t u g → pI u a r g →
    ∃ g2, xl_X12_passOn n 32 [35, (a : Int), (r : Int)] g = some (0, g2) ∧ (∀ a j, a ≠ 12 → g2 a j = g a j) ∧ pI u a (u 6).toNat g2 := by
  have w6 := hW.wd.2.2.2.2
  intro m
  induction m with
  | zero => intro r n g e1 e2; omega
  | succ m ih =>
    intro r n g e1 e2 e3 H I
    obtain ⟨n, rfl⟩ : ∃ n', n = n' + 1 := ⟨n - 1, by omega⟩
    by_cases c : (r : Int) < u 6
    · have key : xl_X12_passOn (n + 1) 32 [35, (a : Int), (r : Int)] g = xl_X12_passOn n 42 [35, (a : Int), (r : Int), ((0 : Nat) : Int)] g := by
        rw [e_X12_passOn_32, H.2.2.2.2.2.2.1, if_pos c]
        rfl
      obtain ⟨g1, n1, f1, f2, f3, f4⟩ := pas_42 (x1 := (a : Int)) (r := r) hW (by omega) 7 0 n g rfl w6.1 (by omega) H
      obtain ⟨i1, i2⟩ := I
      have I1 : pI u a (r + 1) g1 := by
        refine ⟨by rw [(f4 a).1 (by omega)]; exact i1, fun c' hc' => ?_⟩
        obtain ⟨j1, j2, j3, j4⟩ := i2 c' hc'
        obtain ⟨y1, y2, y3⟩ := f4 c'
        -- is there one who heard it last and is heard by c'
        by_cases w : g 12 c' = -1
        · by_cases ex : ∃ b' : Nat, (b' : Int) < u 6 ∧ g 12 b' = (r : Int) ∧ bt (hrs u b') c' = true
          · obtain ⟨b', v2, v3, v4⟩ := ex
            have e : g1 12 c' = (r : Int) + 1 := y2 hc' w ⟨b', Nat.zero_le _, v2, v3, v4⟩
            refine ⟨⟨fun _ => (rsN_s hW ha r (by omega)).mpr (Or.inr ⟨b', v2, (i2 b' v2).1.mp (by omega), v4⟩), fun _ => by omega⟩, Or.inr (by omega), fun _ => by omega, fun b hb _ _ _ => by omega⟩
          · have e : g1 12 c' = -1 := y3 w (fun b' _ v2 v3 => by
              cases q : bt (hrs u b') c' with
              | false => rfl
              | true => exact absurd ⟨b', v2, v3, q⟩ ex)
            have nohear : ∀ b : Nat, (b : Int) < u 6 → g 12 b ≠ -1 → bt (hrs u b) c' = true → False := fun b hb hb2 hb3 => by
              obtain ⟨_, z2, _, _⟩ := i2 b hb
              by_cases v : g 12 b = (r : Int)
              · exact ex ⟨b, hb, v, hb3⟩
              · exact j4 b hb hb2 (by omega) hb3 w
            refine ⟨⟨fun v => absurd e v, fun v => ?_⟩, Or.inl e, fun _ => by omega, fun b hb hb2 hb3 hb4 => ?_⟩
            · rcases (rsN_s hW ha r (by omega)).mp v with v | ⟨b, v1, v2, v3⟩
              · exact absurd (j1.mpr v) (fun q => q w)
              · exact (nohear b v1 ((i2 b v1).1.mpr v2) v3).elim
            · -- b was reached before
              obtain ⟨_, z2, _, _⟩ := i2 b hb
              by_cases v : g 12 b = -1
              · obtain ⟨x1, x2, x3⟩ := f4 b
                by_cases ex2 : ∃ b' : Nat, (b' : Int) < u 6 ∧ g 12 b' = (r : Int) ∧ bt (hrs u b') b = true
                · obtain ⟨b', v2, v3, v4⟩ := ex2
                  have := x2 hb v ⟨b', Nat.zero_le _, v2, v3, v4⟩
                  omega
                · have := x3 v (fun b' _ v2 v3 => by
                    cases q : bt (hrs u b') b with
                    | false => rfl
                    | true => exact absurd ⟨b', v2, v3, q⟩ ex2)
                  exact absurd this hb2
              · exact (nohear b hb v hb4).elim
        · have e : g1 12 c' = g 12 c' := y1 w
          refine ⟨⟨fun _ => (rsN_s hW ha r (by omega)).mpr (Or.inl (j1.mp w)), fun _ => by rw [e]; exact w⟩, by rw [e]; omega, fun v => by rw [e]; exact j3 v, fun b _ _ _ _ => by rw [e]; exact w⟩
      obtain ⟨g2, k2, k3, k4⟩ := ih (r + 1) n1 g1 (by omega) (by omega) (by omega) (H.fq f3) I1
      exact ⟨g2, key.trans (f2.trans k2), fun a j w => (k3 a j w).trans (f3 a j w), k4⟩
    · refine ⟨g, ?_, fun _ _ _ => rfl, by rw [show (u 6).toNat = r by omega]; exact I⟩
      rw [e_X12_passOn_32, H.2.2.2.2.2.2.1, if_neg c]
theorem pas_2 {s a : Nat} {t u : Nat → Int} (hW : tW0 u) (ha : (a : Int) < u 6) : ∀ (m k n : Nat) (g : yH), 7 - k = m → (k : Int) ≤ u 6 → m + 600 ≤ n → hv s t u g → (∀ c : Nat, c < k → g 12 c = -1) →
    ∃ g2, xl_X12_passOn n 2 [35, (a : Int), (k : Int)] g = some (0, g2) ∧ (∀ a j, a ≠ 12 → g2 a j = g a j) ∧ pI u a (u 6).toNat g2 := by
  have w6 := hW.wd.2.2.2.2
  intro m
  induction m with
  | zero => intro k n g e1 e2; omega
  | succ m ih =>
    intro k n g e1 e2 e3 H hc
    obtain ⟨n, rfl⟩ : ∃ n', n = n' + 1 := ⟨n - 1, by omega⟩
    have p32 : g 35 32 = 12 := H.1.2.2.2.p (j := 32) (k := 12) (by decide)
    by_cases c : (k : Int) < u 6
    · obtain ⟨g2, k2, k3, k4⟩ := ih (k + 1) n (zup g 12 k (-1)) (by omega) (by omega) (by omega) (H.fq (fun a j w => zup_ne (by omega))) (fun c' hc' => by
        by_cases w : c' = k
        · rw [w, zup_at]
        · rw [zup_ne (by omega)]
          exact hc c' (by omega))
      refine ⟨g2, ?_, fun a j w => (k3 a j w).trans (zup_ne (by omega)), k4⟩
      rw [e_X12_passOn_2, H.2.2.2.2.2.2.1, if_pos c, xg_pos p32, xg_pos (by omega), xg_pos (by omega), Int.toNat_natCast, show (k : Int) + 1 = ((k + 1 : Nat) : Int) by omega, k2]
    · have H1 : hv s t u (zup g 12 a 0) := H.fq (fun a j w => zup_ne (by omega))
      obtain ⟨s1, s2, s3, s4⟩ := shF ⟨a, by omega⟩
      have I0 : pI u a 0 (zup g 12 a 0) := by
        refine ⟨zup_at _ _ _ _, fun c' hc' => ?_⟩
        have b0 : bt (rsN u a 0) c' = decide (c' = a) := s4 ⟨c', by omega⟩
        rw [b0, decide_eq_true_iff]
        by_cases w : c' = a
        · subst w
          rw [zup_at]
          exact ⟨⟨fun _ => rfl, fun _ => by decide⟩, Or.inr (by decide), fun v => absurd rfl v, fun b _ _ _ _ => by decide⟩
        · rw [zup_ne (by omega), hc c' (by omega)]
          refine ⟨⟨fun v => absurd rfl v, fun v => absurd v w⟩, Or.inl rfl, fun _ => by decide, fun b hb v1 v2 _ => ?_⟩
          by_cases wb : b = a
          · rw [wb, zup_at] at v2
            exact absurd v2 (by decide)
          · rw [zup_ne (by omega)] at v1
            exact absurd (hc b (by omega)) v1
      obtain ⟨g2, k2, k3, k4⟩ := pas_32 hW ha 7 0 n _ rfl w6.1 (by omega) H1 I0
      refine ⟨g2, ?_, fun a j w => (k3 a j w).trans (zup_ne (by omega)), k4⟩
      rw [e_X12_passOn_2, H.2.2.2.2.2.2.1, if_neg c, xg_pos p32, xg_pos (by omega), Int.toNat_natCast]
      exact k2
def cnb (x : Int) (a : Nat) : Nat → Nat → Int
  | 0, _ => 0
  | m + 1, k => (if bt x k = true ∧ k ≠ a then 1 else 0) + cnb x a m (k + 1)
theorem cnbF : ∀ x : Fin 64, ∀ a : Fin 6, ∀ b : Fin 7, a.val < b.val → (x.val : Int) < 2 ^ b.val → bt (x.val : Int) a.val = true → cnb (x.val : Int) a.val b.val 0 = bcn (x.val : Int) - 1 := by decide +kernel
theorem tel_33 {s a : Nat} {x1 x2 : Int} {t u : Nat → Int} {g : yH} (hW : tW0 u) (ha : (a : Int) < u 6) (H : hv s t u g) (I : pI u a (u 6).toNat g) : ∀ (m k n : Nat) (v : Int), (m : Int) + k = u 6 → m < n → 0 ≤ v ∧ v ≤ k → xl_X12_tells n 33 [35, x1, x2, v, (k : Int)] g = some (v + cnb (rsN u a (u 6).toNat) a m k, g) := by
  have w6 := hW.wd.2.2.2.2
  intro m
  induction m with
  | zero =>
    intro k n v e1 e2 e3
    obtain ⟨n, rfl⟩ : ∃ n', n = n' + 1 := ⟨n - 1, by omega⟩
    rw [e_X12_tells_33, H.2.2.2.2.2.2.1, if_neg (by omega)]
    show _ = some (v + 0, g)
    rw [Int.add_zero]
  | succ m ih =>
    intro k n v e1 e2 e3
    obtain ⟨n, rfl⟩ : ∃ n', n = n' + 1 := ⟨n - 1, by omega⟩
    obtain ⟨i1, i2⟩ := I
    obtain ⟨j1, j2, j3, j4⟩ := i2 k (by omega)
    have p32 : g 35 32 = 12 := H.1.2.2.2.p (j := 32) (k := 12) (by decide)
    rw [e_X12_tells_33, H.2.2.2.2.2.2.1, if_pos (by omega), xg_pos p32, xg_pos (by omega), Int.toNat_natCast]
    show _ = some (v + ((if bt (rsN u a (u 6).toNat) k = true ∧ k ≠ a then 1 else 0) + cnb (rsN u a (u 6).toNat) a m (k + 1)), g)
    by_cases c : 0 < g 12 k
    · have hk : k ≠ a := fun q => by rw [q, i1] at c; omega
      rw [if_pos c, if_pos ⟨j1.mp (by omega), hk⟩, xg_pos (by omega), xg_pos (by omega), show (k : Int) + 1 = ((k + 1 : Nat) : Int) by omega, ih (k + 1) n _ (by omega) (by omega) (by omega)]
      congr 2
      omega
    · have hno : ¬ (bt (rsN u a (u 6).toNat) k = true ∧ k ≠ a) := fun q => by
        have z1 := j1.mpr q.1
        have z2 := j3 q.2
        omega
      rw [if_neg c, if_neg hno, xg_pos (by omega), xg_pos (by omega), show (k : Int) + 1 = ((k + 1 : Nat) : Int) by omega, ih (k + 1) n _ (by omega) (by omega) (by omega)]
      congr 2
      omega
theorem tellsR_e {m s : Nat} {x : Int} {t : Nat → Int} {g : yH} (hn : 800 ≤ m) (hq : rQ g) (h4 : ∀ j, j < 12 → 0 ≤ g 4 j ∧ g 4 j ≤ 2) (hs : (s : Int) < g 4 0) (ht : ∀ j, j < 50 → g 5 (50 * s + j) = t j) (hW : tW0 t) : yR (f_X12_tells m [35, (s : Int), x] g) (fun v g2 => v = telV t x ∧ ∃ g1, hdR s t (zup g 35 0 0) g1 ∧ ∀ a j, a ≠ 12 → g2 a j = g1 a j) := by
  refine yR.e e_X12_tells ?_
  refine yR.b (hand_e (by omega) (c0_q hq) (c0_4 h4) (by rw [zup_ne (by omega)]; exact hs) (fun j hj => by rw [zup_ne (by omega)]; exact ht j hj) hW) (fun v g1 ⟨rv, H⟩ => ?_)
  subst rv
  refine yR.f (by decide) ?_
  rw [isBoat_e H.2.1.2.2.2.2.2 hW, xb_some]
  unfold telV
  by_cases c : 0 ≤ x ∧ x < t 6
  · obtain ⟨a, rfl⟩ : ∃ a : Nat, x = (a : Int) := ⟨x.toNat, by omega⟩
    obtain ⟨g2, k2, k3, k4⟩ := pas_2 (s := s) (t := t) hW c.2 7 0 m g1 rfl (hW.wd).2.2.2.2.1 (by omega) H.v (fun c' hc' => by omega)
    have w6 := hW.wd.2.2.2.2
    have e2 : f_X12_passOn m [35, (a : Int)] g1 = some (0, g2) := by rw [e_X12_passOn]; exact k2
    have H2 : hv s t t g2 := H.v.fq k3
    have e3 := tel_33 (x1 := (s : Int)) (x2 := (a : Int)) hW c.2 H2 k4 (t 6).toNat 0 m 0 (by omega) (by omega) (by omega)
    rw [show ((0 : Nat) : Int) = 0 from rfl] at e3
    obtain ⟨b1, b2⟩ := rsN_b hW c.2 (t 6).toNat
    have e4 := cnbF ⟨(rsN t a (t 6).toNat).toNat, by omega⟩ ⟨a, by omega⟩ ⟨(t 6).toNat, by omega⟩ (by show a < (t 6).toNat; omega)
    simp only at e4
    rw [show (((rsN t a (t 6).toNat).toNat : Nat) : Int) = rsN t a (t 6).toNat by omega] at e4
    have hbit : bt (rsN t a (t 6).toNat) a = true := (k4.2 a c.2).1.mp (by rw [k4.1]; decide)
    have e5 := e4 b2 hbit
    rw [if_pos c, if_neg (by decide), e2, xb_some, e3, if_pos c, Int.toNat_natCast, rsN_6 hW c.2, e5]
    exact yR.s ⟨by omega, g1, H, k3⟩
  · rw [if_neg c, if_pos rfl, if_neg c]
    exact yR.s ⟨rfl, g1, H, fun _ _ _ => rfl⟩
theorem RR_tells {m n : Nat} {x w : Int} {h g : yH} (hn : 30 ≤ n) (hm2 : 800 ≤ m) (R : RR True h g) (hw : cPw h) (hL : lnI h) (hm : h 4 1 ≤ 600) (hq : rQ g) (h4 : ∀ j, j < 12 → 0 ≤ g 4 j ∧ g 4 j ≤ 2) : ∃ v h2 g2, f_X11_tells n [1, x, w] h = some (v, h2) ∧ f_X12_tells m [35, x, w] g = some (v, g2) ∧ RR True h2 g2 ∧ ∀ a j, h2 a j = h a j := by
  have hP := R.1
  have n0 := R.n6 (j := 0) (by decide)
  have b0 := h4 0 (by decide)
  refine RR_ask (k := 0) (none' := -1) R hL hm hq h4 (fun c => ?_) (fun c => ?_) (fun s t e hs h6 h4' hW hS hp ht => ?_)
  · rw [e_X11_tells, xg_pos (hP.p (by decide)), findSea_e hP (by omega), xb_some, if_neg c, if_pos (by decide)]
  · refine ⟨-1, zup g 35 0 0, ?_, rfl, R.c0 hL hm⟩
    rw [e_X12_tells, hand_n (c0_q hq) (c0_4 h4) (by rw [zup_ne (by omega)]; exact c), xb_some, if_pos rfl]
  · subst e
    obtain ⟨v, g2, e2, rv, g1, H, fr⟩ := tellsR_e (m := m) (x := w) hm2 hq h4 h4' ht hW
    subst rv
    have R1 : RR True h g1 := (R.c0 hL hm).hd hL hm H
    have q2 : rQ g2 := H.1.2.2.2.fr (fun j _ => fr _ _ (by omega))
    exact ⟨_, h, g2, tellsC_e hn hP hw (by omega) h6 hS hp hW, e2, R1.gf hL hm q2.P (fun a j w => fr a j (by omega)), fun _ _ => rfl⟩
end
section
/-! the reference: a sea laid as it is told -/
def bgK (a : Nat) : Prop := a = 13 ∨ a = 14 ∨ a = 15 ∨ a = 16 ∨ a = 19 ∨ a = 20
def v13 (t : Nat → Int) (k : Nat) : Int := if (k : Int) < t 5 then t (19 + 3 * k) else 0
def v14 (t : Nat → Int) (k : Nat) : Int := if (k : Int) < t 5 then t (20 + 3 * k) else 0
def v15 (t : Nat → Int) (k : Nat) : Int := if (k : Int) < t 5 then t (21 + 3 * k) else 4
theorem beg_s {s k n : Nat} {t : Nat → Int} {g : yH} (H : sH s t g) (h35 : g 35 35 = t 5) (h5 : 0 ≤ t 5 ∧ t 5 ≤ 4) (hk : k < 6) : xl_X12_begin (n + 1) 15 [35, (k : Int)] g = xl_X12_begin n 15 [35, ((k + 1 : Nat) : Int)] (zup (zup (zup (zup (zup (zup g 13 k (v13 t k)) 14 k (v14 t k)) 15 k (v15 t k)) 20 k (-1)) 19 k 0) 16 k (-1)) := by
  have p : ∀ (j : Nat) (kk : Int) (gg : yH), sH s t gg → (j, kk) ∈ rQL → gg 35 j = kk := fun j kk gg HH hm => HH.2.2.2.p hm
  have H1 : sH s t (zup g 13 k (v13 t k)) := H.fr (fun a j w => zup_ne (by omega))
  have H2 : sH s t (zup (zup g 13 k (v13 t k)) 14 k (v14 t k)) := H1.fr (fun a j w => zup_ne (by omega))
  have H3 : sH s t (zup (zup (zup g 13 k (v13 t k)) 14 k (v14 t k)) 15 k (v15 t k)) := H2.fr (fun a j w => zup_ne (by omega))
  have H4 : sH s t (zup (zup (zup (zup g 13 k (v13 t k)) 14 k (v14 t k)) 15 k (v15 t k)) 20 k (-1)) := H3.fr (fun a j w => zup_ne (by omega))
  have H5 : sH s t (zup (zup (zup (zup (zup g 13 k (v13 t k)) 14 k (v14 t k)) 15 k (v15 t k)) 20 k (-1)) 19 k 0) := H4.fr (fun a j w => zup_ne (by omega))
  rw [e_X12_begin_15, if_pos (by omega), h35]
  by_cases c : (k : Int) < t 5
  · have e13 : v13 t k = t (19 + 3 * k) := if_pos c
    have e14 : v14 t k = t (20 + 3 * k) := if_pos c
    have e15 : v15 t k = t (21 + 3 * k) := if_pos c
    rw [if_pos c, e_X12_begin_34, xg_pos (p 36 13 _ H (by decide)), if_neg (by decide), xg_pos (by omega), xg_pos (by omega), of_e H (k := 19 + 3 * k) (by omega) (by omega), xb_some, ← e13]
    rw [e_X12_begin_58, xg_pos (by omega), xg_pos (p 37 14 _ H (by decide)), if_neg (by decide), xg_pos (by omega), xg_pos (by omega), xg_pos (by omega), Int.toNat_natCast, of_e H1 (k := 20 + 3 * k) (by omega) (by omega), xb_some, ← e14]
    rw [e_X12_begin_84, xg_pos (by omega), xg_pos (p 38 15 _ H1 (by decide)), if_neg (by decide), xg_pos (by omega), xg_pos (by omega), xg_pos (by omega), Int.toNat_natCast, of_e H2 (k := 21 + 3 * k) (by omega) (by omega), xb_some, ← e15]
    rw [e_X12_begin_110, xg_pos (by omega), xg_pos (p 39 20 _ H2 (by decide)), xg_pos (by omega), xg_pos (p 40 19 _ H2 (by decide)), xg_pos (by omega), xg_pos (p 41 16 _ H2 (by decide)), xg_pos (by omega), xg_pos (by omega), Int.toNat_natCast, show (k : Int) + 1 = ((k + 1 : Nat) : Int) by omega]
  · have e13 : v13 t k = 0 := if_neg c
    have e14 : v14 t k = 0 := if_neg c
    have e15 : v15 t k = 4 := if_neg c
    simp only [e13, e14, e15] at H1 H2 H3 H4 H5 ⊢
    rw [if_neg c, e_X12_begin_34, xg_pos (p 36 13 _ H (by decide)), if_pos rfl]
    rw [e_X12_begin_58, xg_pos (by omega), xg_pos (p 37 14 _ H (by decide)), if_pos rfl, Int.toNat_natCast]
    rw [e_X12_begin_84, xg_pos (by omega), xg_pos (p 38 15 _ H1 (by decide)), if_pos rfl, Int.toNat_natCast]
    rw [e_X12_begin_110, xg_pos (by omega), xg_pos (p 39 20 _ H2 (by decide)), xg_pos (by omega), xg_pos (p 40 19 _ H2 (by decide)), xg_pos (by omega), xg_pos (p 41 16 _ H2 (by decide)), xg_pos (by omega), xg_pos (by omega), Int.toNat_natCast, show (k : Int) + 1 = ((k + 1 : Nat) : Int) by omega]
/-- the shoals as they lie -/
def shV (t : Nat → Int) (i : Nat) (g : yH) : Prop := g 13 i = v13 t i ∧ g 14 i = v14 t i ∧ g 15 i = v15 t i ∧ g 20 i = -1 ∧ g 19 i = 0 ∧ g 16 i = -1
theorem beg_15 {s : Nat} {t : Nat → Int} (h5 : 0 ≤ t 5 ∧ t 5 ≤ 4) : ∀ (m k n : Nat) (g : yH), k + m = 6 → m + 1 ≤ n → sH s t g → g 35 35 = t 5 → (∀ i, i < k → shV t i g) →
    ∃ g2 n2, n2 + m + 1 = n ∧ xl_X12_begin n 15 [35, (k : Int)] g = xl_X12_begin n2 140 [35, ((0 : Nat) : Int)] g2 ∧ (∀ a j, ¬ bgK a → g2 a j = g a j) ∧ ∀ i, i < 6 → shV t i g2 := by
  intro m
  induction m with
  | zero =>
    intro k n g e1 e2 H h35 hs
    obtain ⟨n, rfl⟩ : ∃ n', n = n' + 1 := ⟨n - 1, by omega⟩
    refine ⟨g, n, rfl, ?_, fun _ _ _ => rfl, fun i hi => hs i (by omega)⟩
    rw [e_X12_begin_15, if_neg (by omega)]
    rfl
  | succ m ih =>
    intro k n g e1 e2 H h35 hs
    obtain ⟨n, rfl⟩ : ∃ n', n = n' + 1 := ⟨n - 1, by omega⟩
    have key := beg_s (n := n) H h35 h5 (k := k) (by omega)
    have fr : ∀ a j, ¬ (bgK a ∧ j = k) → (zup (zup (zup (zup (zup (zup g 13 k (v13 t k)) 14 k (v14 t k)) 15 k (v15 t k)) 20 k (-1)) 19 k 0) 16 k (-1)) a j = g a j := fun a j w => by
      unfold bgK at w
      rw [zup_ne (by omega), zup_ne (by omega), zup_ne (by omega), zup_ne (by omega), zup_ne (by omega), zup_ne (by omega)]
    have hv2 : shV t k (zup (zup (zup (zup (zup (zup g 13 k (v13 t k)) 14 k (v14 t k)) 15 k (v15 t k)) 20 k (-1)) 19 k 0) 16 k (-1)) := by
      refine ⟨?_, ?_, ?_, ?_, ?_, ?_⟩ <;> simp [zup]
    generalize zup (zup (zup (zup (zup (zup g 13 k (v13 t k)) 14 k (v14 t k)) 15 k (v15 t k)) 20 k (-1)) 19 k 0) 16 k (-1) = g1 at key fr hv2
    have n35 : ¬ bgK 35 := by unfold bgK; omega
    have n5 : ¬ bgK 5 := by unfold bgK; omega
    obtain ⟨g2, n2, f1, f2, f3, f4⟩ := ih (k + 1) n g1 (by omega) (by omega) (H.fr (fun a j w => fr a j (fun q => by
      rcases w with w | w
      · rw [w] at q; exact n5 q.1
      · rw [w.1] at q; exact n35 q.1))) (by rw [fr _ _ (fun q => n35 q.1)]; exact h35) (fun i hi => by
      by_cases w : i = k
      · rw [w]; exact hv2
      · obtain ⟨x1, x2, x3, x4, x5, x6⟩ := hs i (by omega)
        refine ⟨?_, ?_, ?_, ?_, ?_, ?_⟩
        · rw [fr _ _ (fun q => w q.2)]; exact x1
        · rw [fr _ _ (fun q => w q.2)]; exact x2
        · rw [fr _ _ (fun q => w q.2)]; exact x3
        · rw [fr _ _ (fun q => w q.2)]; exact x4
        · rw [fr _ _ (fun q => w q.2)]; exact x5
        · rw [fr _ _ (fun q => w q.2)]; exact x6)
    exact ⟨g2, n2, by omega, key.trans f2, fun a j w => (f3 a j w).trans (fr a j (fun q => w q.1)), f4⟩
/-- the boats as they lie -/
theorem beg_140 {s : Nat} {t : Nat → Int} (hW : tW0 t) : ∀ (m k n : Nat) (g : yH), 7 - k = m → (k : Int) ≤ t 6 → m ≤ n → sH s t g → g 35 28 = t 6 → (∀ i : Nat, i < k → g 10 i = t (31 + 3 * i) ∧ g 17 i = 0 ∧ g 18 i = 0) →
    ∃ g2, xl_X12_begin n 140 [35, (k : Int)] g = some (0, g2) ∧ (∀ a j, ¬ (a = 10 ∨ a = 17 ∨ a = 18) → ¬ (a = 35 ∧ j = 49) → g2 a j = g a j) ∧ g2 35 49 = 0 ∧ ∀ i : Nat, (i : Int) < t 6 → g2 10 i = t (31 + 3 * i) ∧ g2 17 i = 0 ∧ g2 18 i = 0 := by
  have w6 := hW.wd.2.2.2.2
  intro m
  induction m with
  | zero => intro k n g e1 e2; omega
  | succ m ih =>
    intro k n g e1 e2 e3 H h28 hs
    obtain ⟨n, rfl⟩ : ∃ n', n = n' + 1 := ⟨n - 1, by omega⟩
    have p : ∀ (j : Nat) (kk : Int), (j, kk) ∈ rQL → g 35 j = kk := fun j kk hm => H.2.2.2.p hm
    rw [e_X12_begin_140, h28]
    by_cases c : (k : Int) < t 6
    · have wb := hW.bt (b := k) (by omega)
      rw [if_pos c, xg_pos (p 30 10 (by decide)), xg_pos (by omega), xg_pos (by omega), of_e H (k := 31 + 3 * k) (by omega) (by omega), xb_some, xg_pos (by omega), xg_pos wb.1, xg_pos (p 42 17 (by decide)), xg_pos (by omega), xg_pos (p 43 18 (by decide)), xg_pos (by omega), xg_pos (by omega), Int.toNat_natCast, show (k : Int) + 1 = ((k + 1 : Nat) : Int) by omega]
      have fr : ∀ a j, ¬ ((a = 10 ∨ a = 17 ∨ a = 18) ∧ j = k) → (zup (zup (zup g 10 k (t (31 + 3 * k))) 17 k 0) 18 k 0) a j = g a j := fun a j w => by
        rw [zup_ne (by omega), zup_ne (by omega), zup_ne (by omega)]
      have hk3 : (zup (zup (zup g 10 k (t (31 + 3 * k))) 17 k 0) 18 k 0) 10 k = t (31 + 3 * k) ∧ (zup (zup (zup g 10 k (t (31 + 3 * k))) 17 k 0) 18 k 0) 17 k = 0 ∧ (zup (zup (zup g 10 k (t (31 + 3 * k))) 17 k 0) 18 k 0) 18 k = 0 := by
        refine ⟨?_, ?_, ?_⟩ <;> simp [zup]
      generalize zup (zup (zup g 10 k (t (31 + 3 * k))) 17 k 0) 18 k 0 = g1 at fr hk3
      obtain ⟨g2, f1, f2, f3, f4⟩ := ih (k + 1) n g1 (by omega) (by omega) (by omega) (H.fr (fun a j w => fr a j (by omega))) (by rw [fr _ _ (by omega)]; exact h28) (fun i hi => by
        by_cases w : i = k
        · rw [w]; exact hk3
        · rw [fr _ _ (by omega), fr _ _ (by omega), fr _ _ (by omega)]
          exact hs i (by omega))
      exact ⟨g2, f1, fun a j w1 w2 => (f2 a j w1 w2).trans (fr a j (by omega)), f3, f4⟩
    · rw [if_neg c]
      refine ⟨_, rfl, fun a j w1 w2 => zup_ne w2, zup_at _ _ _ _, fun i hi => ?_⟩
      rw [zup_ne (by omega), zup_ne (by omega), zup_ne (by omega)]
      exact hs i (by omega)
/-- what begin leaves -/
def bgR (s : Nat) (t : Nat → Int) (g g2 : yH) : Prop := hv s t t g2 ∧ g2 35 34 = 0 ∧ g2 35 35 = t 5 ∧ g2 35 49 = 0 ∧ (∀ i, i < 6 → shV t i g2) ∧ (∀ i : Nat, (i : Int) < t 6 → g2 17 i = 0 ∧ g2 18 i = 0) ∧ ∀ a j, ¬ (bgK a ∨ a = 10 ∨ a = 17 ∨ a = 18) → ¬ (a = 35 ∧ (j = 34 ∨ j = 35 ∨ j = 49)) → g2 a j = g a j
theorem begR_e {n s : Nat} {t : Nat → Int} {g : yH} (hn : 20 ≤ n) (hW : tW0 t) (H : hv s t t g) (h29 : g 35 29 = t 5) : ∃ g2, f_X12_begin n [35] g = some (0, g2) ∧ bgR s t g g2 := by
  have w5 : 0 ≤ t 5 ∧ t 5 ≤ 4 := hW.2.2.2.2.2.1
  obtain ⟨k1, k2, k3, k4, k5, k6, k7, k8⟩ := id H
  rw [e_X12_begin, h29, xg_pos (by omega)]
  have frA : ∀ a j, ¬ (a = 35 ∧ (j = 34 ∨ j = 35)) → (zup (zup g 35 34 0) 35 35 (t 5)) a j = g a j := fun a j w => by
    rw [zup_ne (by omega), zup_ne (by omega)]
  have a34 : (zup (zup g 35 34 0) 35 35 (t 5)) 35 34 = 0 := by rw [zup_ne (by omega), zup_at]
  have a35 : (zup (zup g 35 34 0) 35 35 (t 5)) 35 35 = t 5 := zup_at _ _ _ _
  have HA : sH s t (zup (zup g 35 34 0) 35 35 (t 5)) := k1.fr (fun a j w => frA a j (fun c => by
    rcases w with w | ⟨-, w | w⟩
    · omega
    · omega
    · have : ∀ j ∈ rQs, ¬ (j = 34 ∨ j = 35) := by decide
      exact this j w c.2))
  generalize zup (zup g 35 34 0) 35 35 (t 5) = gA at frA a34 a35 HA
  obtain ⟨g1, n1, b1, b2, b3, b4⟩ := beg_15 w5 6 0 n gA rfl (by omega) HA a35 (fun i hi => absurd hi (by omega))
  have n35 : ¬ bgK 35 := by unfold bgK; omega
  have n5 : ¬ bgK 5 := by unfold bgK; omega
  have n10 : ¬ bgK 10 := by unfold bgK; omega
  have n11 : ¬ bgK 11 := by unfold bgK; omega
  have HB : sH s t g1 := HA.fr (fun a j w => b3 a j (by
    rcases w with w | w
    · rw [w]; exact n5
    · rw [w.1]; exact n35))
  obtain ⟨g2, c1, c2, c3, c4⟩ := beg_140 hW 7 0 n1 g1 rfl hW.wd.2.2.2.2.1 (by omega) HB (by rw [b3 _ _ n35, frA _ _ (by omega)]; exact k7) (fun i hi => absurd hi (by omega))
  have frAll : ∀ a j, ¬ (bgK a ∨ a = 10 ∨ a = 17 ∨ a = 18) → ¬ (a = 35 ∧ (j = 34 ∨ j = 35 ∨ j = 49)) → g2 a j = g a j := fun a j w1 w2 => by
    rw [c2 a j (fun q => w1 (Or.inr q)) (fun q => w2 ⟨q.1, by omega⟩), b3 a j (fun q => w1 (Or.inl q)), frA a j (fun q => w2 ⟨q.1, by omega⟩)]
  have m35 : ∀ j, j ≠ 34 → j ≠ 35 → j ≠ 49 → g2 35 j = g 35 j := fun j j1 j2 j3 => frAll 35 j (fun q => by
    rcases q with q | q
    · exact n35 q
    · omega) (by omega)
  have HC : sH s t g2 := HB.fr (fun a j w => c2 a j (by omega) (fun q => by
    rcases w with w | ⟨-, w | w⟩
    · omega
    · omega
    · have : ∀ j ∈ rQs, j ≠ 49 := by decide
      exact this j w q.2))
  refine ⟨g2, ?_, ⟨HC, rfl, by rw [m35 _ (by omega) (by omega) (by omega)]; exact k3, by rw [m35 _ (by omega) (by omega) (by omega)]; exact k4, by rw [m35 _ (by omega) (by omega) (by omega)]; exact k5, by rw [m35 _ (by omega) (by omega) (by omega)]; exact k6, by rw [m35 _ (by omega) (by omega) (by omega)]; exact k7, fun i hi => ⟨(c4 i hi).1, ?_⟩⟩, ?_, ?_, c3, fun i hi => ?_, fun i hi => (c4 i hi).2, frAll⟩
  · refine (show _ = xl_X12_begin n 15 [35, ((0 : Nat) : Int)] gA from rfl).trans (b2.trans c1)
  · rw [frAll 11 i (fun q => by
      rcases q with q | q
      · exact n11 q
      · omega) (by omega)]
    exact (k8 i hi).2
  · rw [c2 _ _ (by omega) (by omega), b3 _ _ n35]; exact a34
  · rw [c2 _ _ (by omega) (by omega), b3 _ _ n35]; exact a35
  · obtain ⟨x1, x2, x3, x4, x5, x6⟩ := b4 i hi
    exact ⟨by rw [c2 _ _ (by omega) (by omega)]; exact x1, by rw [c2 _ _ (by omega) (by omega)]; exact x2, by rw [c2 _ _ (by omega) (by omega)]; exact x3, by rw [c2 _ _ (by omega) (by omega)]; exact x4, by rw [c2 _ _ (by omega) (by omega)]; exact x5, by rw [c2 _ _ (by omega) (by omega)]; exact x6⟩
end
section
/-! laws of coasts; which shoals a boat could claim from a cell -/
def lawV (t : Nat → Int) (b w : Nat) : Int := t (7 + 4 * (t (33 + 3 * b)).toNat + w)
theorem lawOf_e {n s b w : Nat} {t : Nat → Int} {g : yH} (H : sH s t g) (hW : tW0 t) (hb : b < 6) (hw : w < 4) : f_X12_lawOf n [35, (b : Int), (w : Int)] g = some (lawV t b w, g) := by
  have q := hW.bt hb
  rw [e_X12_lawOf, xg_pos (by omega), xg_pos (by omega), xg_pos (by omega), of_e H (k := 33 + 3 * b) (by omega) (by omega), xb_some, xg_pos (by omega), xg_pos (by omega), xg_pos (by omega), of_e H (k := 7 + 4 * (t (33 + 3 * b)).toNat + w) (by omega) (by omega), xb_some]
  rfl
theorem lawC_e {n b a w : Nat} {t : Nat → Int} {h : yH} (hS : cS b t h) (hp : cSp b h) (hW : tW0 t) (ha : (a : Int) < t 6) (hw : w < 4) : f_X6_lawOf n [(b : Int), (a : Int), (w : Int)] h = some (lawV t a w, h) := by
  have w6 := hW.wd.2.2.2.2
  have q := hW.bt (b := a) (by omega)
  obtain ⟨a0, a1, a2, a3, a4, a5, a6, a7, a8, a9, a10⟩ := id hS
  have e1 : ((b : Int) + 7).toNat = b + 7 := by omega
  have e2 : ((b : Int) + 1).toNat = b + 1 := by omega
  rw [e_X6_lawOf, Int.toNat_natCast, Int.toNat_natCast, e1, e2, (a10 a ha).2.2, xg_pos hp.1, xg_pos hp.2.2.2.2.2.2, xg_pos (by omega), xg_pos (by omega), xg_pos (by omega), xg_pos (by omega), show (4 * t (33 + 3 * a) + (w : Int)).toNat = 4 * (t (33 + 3 * a)).toNat + w by omega, a8 _ (by omega)]
  unfold lawV
  rw [show 7 + (4 * (t (33 + 3 * a)).toNat + w) = 7 + 4 * (t (33 + 3 * a)).toNat + w by omega]
/-- near enough a shoal -/
def nr (t : Nat → Int) (b : Nat) (fr p : Int) : Bool := decide (cst (t 0) (t 2) (t 3) fr p ≤ lawV t b 2)
theorem nr_iff {t : Nat → Int} {b : Nat} {fr p : Int} : nr t b fr p = true ↔ cst (t 0) (t 2) (t 3) fr p ≤ lawV t b 2 := decide_eq_true_iff
def nst (t : Nat → Int) (b : Nat) (fr : Int) : Nat → Int
  | 0 => 0
  | k + 1 => if nr t b fr (t (19 + 3 * k)) = true then yari 8 (nst t b fr k) (yari 5 1 (k : Int)) else nst t b fr k
theorem nst_b {t : Nat → Int} {b : Nat} {fr : Int} : ∀ k, k ≤ 6 → (0 ≤ nst t b fr k ∧ nst t b fr k ≤ 63) ∧ ∀ j, j < 6 → (bt (nst t b fr k) j = true ↔ j < k ∧ nr t b fr (t (19 + 3 * j)) = true) := by
  intro k
  induction k with
  | zero =>
    intro _
    refine ⟨⟨Int.le_refl _, (by decide : (0 : Int) ≤ 63)⟩, fun j hj => ⟨fun w => ?_, fun w => by omega⟩⟩
    have : ∀ c : Fin 6, bt 0 c.val = false := by decide +kernel
    have := this ⟨j, hj⟩
    have w' : bt 0 j = true := w
    simp only at this
    rw [this] at w'
    cases w'
  | succ k ih =>
    intro hk
    obtain ⟨i1, i2⟩ := ih (by omega)
    obtain ⟨s1, s2, s3, s4⟩ := shF ⟨k, by omega⟩
    cases e : nr t b fr (t (19 + 3 * k)) with
    | false =>
      have e2 : nst t b fr (k + 1) = nst t b fr k := if_neg (by rw [e]; decide)
      rw [e2]
      refine ⟨i1, fun j hj => (i2 j hj).trans ⟨fun w => ⟨by omega, w.2⟩, fun w => ⟨?_, w.2⟩⟩⟩
      have : j ≠ k := fun q => by rw [q, e] at w; cases w.2
      omega
    | true =>
      have e2 : nst t b fr (k + 1) = yari 8 (nst t b fr k) (yari 5 1 (k : Int)) := if_pos e
      obtain ⟨o1, o2, o3, o4⟩ := or_b i1 s1
      rw [e2]
      refine ⟨o1, fun j hj => ?_⟩
      have s4' := s4 ⟨j, hj⟩
      simp only at s4'
      rw [o2 j hj, s4', Bool.or_eq_true, i2 j hj, decide_eq_true_iff]
      refine ⟨fun w => ?_, fun w => ?_⟩
      · rcases w with w | w
        · exact ⟨by omega, w.2⟩
        · rw [w]; exact ⟨Nat.lt_succ_self _, e⟩
      · by_cases q : j = k
        · exact Or.inr q
        · exact Or.inl ⟨by omega, w.2⟩
theorem tW0.sl {u : Nat → Int} (h : tW0 u) : 0 ≤ u 5 ∧ u 5 ≤ 4 := h.2.2.2.2.2.1
theorem tW0.sh {u : Nat → Int} (h : tW0 u) {k : Nat} (hk : k < 4) : (0 ≤ u (19 + 3 * k) ∧ u (19 + 3 * k) ≤ 63) ∧ (0 ≤ u (20 + 3 * k) ∧ u (20 + 3 * k) ≤ 99 ∧ ((k : Int) < u 5 → 1 ≤ u (20 + 3 * k))) ∧ 0 ≤ u (21 + 3 * k) ∧ u (21 + 3 * k) ≤ 4 := h.2.2.2.2.2.2.2.2.2.1 k hk
theorem near_l {b a : Nat} {fr : Int} {t : Nat → Int} {h : yH} (hS : cS b t h) (hp : cSp b h) (hW : tW0 t) (ha : (a : Int) < t 6) (hfr : 0 ≤ fr ∧ fr ≤ 63) : ∀ (m k n : Nat), 5 - k = m → (k : Int) ≤ t 5 → m ≤ n → xl_X6_nearShoals n 5 [(b : Int), (a : Int), fr, nst t a fr k, (k : Int)] h = some (nst t a fr (t 5).toNat, h) := by
  have w5 := hW.sl
  have d := hW.wd
  obtain ⟨a0, a1, a2, a3, a4, a5, a6, a7, a8, a9, a10⟩ := id hS
  intro m
  induction m with
  | zero => intro k n e1 e2; omega
  | succ m ih =>
    intro k n e1 e2 e3
    obtain ⟨n, rfl⟩ : ∃ n', n = n' + 1 := ⟨n - 1, by omega⟩
    rw [e_X6_nearShoals_5, Int.toNat_natCast, a5]
    by_cases c : (k : Int) < t 5
    · have nx := ih (k + 1) n (by omega) (by omega) (by omega)
      have sk := hW.sh (k := k) (by omega)
      have lw := lawC_e (n := n) (w := 2) hS hp hW ha (by decide)
      rw [show ((2 : Nat) : Int) = 2 from rfl] at lw
      have e2' : ((b : Int) + 2).toNat = b + 2 := by omega
      rw [if_pos c, xg_pos hp.2.1, xg_pos (by omega), e2', Int.toNat_natCast, (a9 k c).1, cost_e a0 a2 a3 d.1 d.2.2.2.1 hfr sk.1, xb_some, lw, xb_some]
      by_cases c2 : lawV t a 2 < cst (t 0) (t 2) (t 3) fr (t (19 + 3 * k))
      · have e : nst t a fr (k + 1) = nst t a fr k := if_neg (by rw [nr_iff]; omega)
        rw [e] at nx
        rw [if_pos c2, xg_pos (by omega), show (k : Int) + 1 = ((k + 1 : Nat) : Int) by omega]
        exact nx
      · have e : nst t a fr (k + 1) = yari 8 (nst t a fr k) (yari 5 1 (k : Int)) := if_pos (by rw [nr_iff]; omega)
        rw [e] at nx
        rw [if_neg c2, xg_pos (by omega), show (k : Int) + 1 = ((k + 1 : Nat) : Int) by omega]
        exact nx
    · rw [if_neg c, show (t 5).toNat = k by omega]
theorem near_e {n b a : Nat} {fr : Int} {t : Nat → Int} {h : yH} (hn : 5 ≤ n) (hS : cS b t h) (hp : cSp b h) (hW : tW0 t) (ha : (a : Int) < t 6) (hfr : 0 ≤ fr ∧ fr ≤ 63) : f_X6_nearShoals n [(b : Int), (a : Int), fr] h = some (nst t a fr (t 5).toNat, h) := by
  rw [e_X6_nearShoals]
  exact near_l hS hp hW ha hfr 5 0 n rfl hW.sl.1 hn
/-- with enough witnesses -/
def wit (t : Nat → Int) (b : Nat) (fr vo : Int) : Bool := decide (lawV t b 1 ≤ bcn (hst t fr vo b (t 6).toNat))
theorem wit_iff {t : Nat → Int} {b : Nat} {fr vo : Int} : wit t b fr vo = true ↔ lawV t b 1 ≤ bcn (hst t fr vo b (t 6).toNat) := decide_eq_true_iff
def lsA (t : Nat → Int) (b : Nat) (fr : Int) (ok : Bool) : Nat → Nat → Int
  | 0, _ => -1
  | m + 1, v => if (ok && wit t b fr (v : Int)) = true then (v : Int) else lsA t b fr ok m (v + 1)
theorem lsA_f {t : Nat → Int} {b : Nat} {fr : Int} : ∀ m v, lsA t b fr false m v = -1 := by
  intro m
  induction m with
  | zero => intro v; rfl
  | succ m ih =>
    intro v
    show (if (false && wit t b fr (v : Int)) = true then (v : Int) else lsA t b fr false m (v + 1)) = -1
    rw [Bool.false_and, if_neg (by decide), ih]
theorem voice_l {b a : Nat} {x3 fr : Int} {t : Nat → Int} {h : yH} (hS : cS b t h) (hp : cSp b h) (hW : tW0 t) (ha : (a : Int) < t 6) (hfr : 0 ≤ fr ∧ fr ≤ 63) : ∀ (m v n : Nat), m + v = 21 → m + 7 ≤ n → xl_X10_leastVoice n 27 [150, (b : Int), (a : Int), x3, fr, (v : Int)] h = some (lsA t a fr true m v, h) := by
  intro m
  induction m with
  | zero =>
    intro v n e1 e2
    obtain ⟨n, rfl⟩ : ∃ n', n = n' + 1 := ⟨n - 1, by omega⟩
    rw [e_X10_leastVoice_27, if_pos (by omega)]
    rfl
  | succ m ih =>
    intro v n e1 e2
    obtain ⟨n, rfl⟩ : ∃ n', n = n' + 1 := ⟨n - 1, by omega⟩
    have w6 := hW.wd.2.2.2.2
    have hb := hst_b (u := t) (fr := fr) (vo := (v : Int)) (a := a) (t 6).toNat (by omega)
    have lw := lawC_e (n := n) (w := 1) hS hp hW ha (by decide)
    rw [show ((1 : Nat) : Int) = 1 from rfl] at lw
    rw [e_X10_leastVoice_27, if_neg (by omega), Int.toNat_natCast, xg_pos hp.2.2.2.2.1, show (b : Int) + 5 = ((b + 5 : Nat) : Int) by omega, hearers_e (by omega) hS hW hfr, xb_some, bc_e hb, xb_some, lw, xb_some]
    show _ = some (if (true && wit t a fr (v : Int)) = true then (v : Int) else lsA t a fr true m (v + 1), h)
    rw [Bool.true_and]
    by_cases c : bcn (hst t fr (v : Int) a (t 6).toNat) < lawV t a 1
    · rw [if_pos c, if_neg (by rw [wit_iff]; omega), xg_pos (by omega), show (v : Int) + 1 = ((v + 1 : Nat) : Int) by omega, ih (v + 1) n (by omega) (by omega)]
    · rw [if_neg c, if_pos (by rw [wit_iff]; omega)]
/-- what least answers -/
def lstV (t : Nat → Int) (x y : Int) : Int := if (0 ≤ x ∧ x < t 6) ∧ 0 ≤ y ∧ y < t 5 then lsA t x.toNat (t (31 + 3 * x.toNat)) (nr t x.toNat (t (31 + 3 * x.toNat)) (t (19 + 3 * y.toNat))) 21 0 else -1
theorem leastC_e {n s : Nat} {x y : Int} {t : Nat → Int} {h : yH} (hn : 40 ≤ n) (hP : cP h) (hw : cPw h) (hb : h 6 0 ≤ 2) (hs : (s : Int) < h 6 0) (hS : cS (20 + 10 * s) t h) (hp : cSp (20 + 10 * s) h) (hW : tW0 t) : f_X11_least n [1, (s : Int), x, y] h = some (lstV t x y, h) := by
  have w5 := hW.sl
  have w6 := hW.wd.2.2.2.2
  rw [e_X11_least, xg_pos (hP.p (by decide)), findSea_e hP hb, xb_some, if_pos (show 0 ≤ (s : Int) ∧ (s : Int) < h 6 0 by omega), if_neg (by omega), xg_pos (by omega), show 20 + 10 * (s : Int) = ((20 + 10 * s : Nat) : Int) by omega, hasBoat_e hS, xb_some]
  unfold lstV
  by_cases c : 0 ≤ x ∧ x < t 6
  · obtain ⟨a, rfl⟩ : ∃ a : Nat, x = (a : Int) := ⟨x.toNat, by omega⟩
    rw [if_pos c, if_neg (by decide), xg_pos (by omega), hasShoal_e hS, xb_some]
    by_cases c2 : 0 ≤ y ∧ y < t 5
    · obtain ⟨k, rfl⟩ : ∃ k : Nat, y = (k : Int) := ⟨y.toNat, by omega⟩
      have wa := hW.bt (b := a) (by omega)
      have e5 : (((20 + 10 * s : Nat) : Int) + 5).toNat = 20 + 10 * s + 5 := by omega
      have nb := nst_b (t := t) (b := a) (fr := t (31 + 3 * a)) (t 5).toNat (by omega)
      have q := (bit_b nb.1).2 k (by omega)
      have q2 := nb.2 k (by omega)
      rw [if_pos c2, if_neg (by decide), xg_pos hw.1, xg_pos (by omega), if_pos ⟨c, c2⟩, Int.toNat_natCast, Int.toNat_natCast, e_X10_leastVoice, Int.toNat_natCast, Int.toNat_natCast, e5, xg_pos hp.2.2.2.2.1, xg_pos (by omega), (hS.2.2.2.2.2.2.2.2.2.2 a c.2).1, near_e (by omega) hS hp hW c.2 wa.1, xb_some]
      cases e : nr t a (t (31 + 3 * a)) (t (19 + 3 * k)) with
      | false =>
        have hb0 : ¬ (yari 7 (yari 6 (nst t a (t (31 + 3 * a)) (t 5).toNat) (k : Int)) 1 = 1) := fun w => by
          have := (q2.mp (q.mp w)).2
          rw [e] at this
          cases this
        rw [if_pos ((bit_01 _).resolve_right hb0), xb_some, lsA_f]
      | true =>
        have hb1 := q.mpr (q2.mpr ⟨by omega, e⟩)
        have v := voice_l (x3 := (k : Int)) hS hp hW c.2 wa.1 21 0 n rfl (by omega)
        rw [show ((0 : Nat) : Int) = 0 from rfl] at v
        rw [if_neg (by rw [hb1]; decide), v, xb_some]
    · rw [if_neg c2, if_pos rfl, if_neg (fun w => c2 w.2)]
  · rw [if_neg c, if_pos rfl, if_neg (fun w => c w.1)]
/-! the reference -/
theorem zup_id {g : yH} {a j : Nat} {x : Int} : zup (zup g a j x) a j (g a j) = g := by
  funext a' j'
  by_cases w : a' = a ∧ j' = j
  · rw [w.1, w.2, zup_at]
  · rw [zup_ne w, zup_ne w]
/-- a sea laid; boats may stand elsewhere or have another voice -/
def tst (s : Nat) (t u : Nat → Int) (g : yH) : Prop := hv s t u g ∧ g 35 34 = 0 ∧ g 35 35 = t 5 ∧ ∀ i, i < 6 → shV t i g
theorem isThere_e {n s : Nat} {x : Int} {t u : Nat → Int} {g : yH} (T : tst s t u g) (hW : tW0 t) : f_X12_isThere n [35, x] g = some (if 0 ≤ x ∧ x < t 5 then 1 else 0, g) := by
  have w5 := hW.sl
  obtain ⟨H, h34, h35, hs⟩ := T
  rw [e_X12_isThere, h35, xg_pos (by omega)]
  by_cases c : 0 ≤ x ∧ x < t 5
  · obtain ⟨k, rfl⟩ : ∃ k : Nat, x = (k : Int) := ⟨x.toNat, by omega⟩
    have e14 : v14 t k = t (20 + 3 * k) := if_pos c.2
    have sk := hW.sh (k := k) (by omega)
    rw [in_t (by omega), xb_some, if_neg (by decide), xg_pos (H.1.2.2.2.p (j := 37) (k := 14) (by decide)), xg_pos (by omega), Int.toNat_natCast, (hs k (by omega)).2.1, e14, if_pos (by omega), if_pos c]
  · rw [in_f (by omega), xb_some, if_pos rfl, if_neg c]
theorem lack_e {n s b k : Nat} {t u : Nat → Int} {g : yH} {heard p : Int} (hn : 17 ≤ n) (T : tst s t u g) (hWt : tW0 t) (hW : tW0 u) (hb : (b : Int) < u 6) (hk : k < 6) (hh : 0 ≤ heard ∧ heard ≤ 63) (hp : g 13 k = p) (hpb : 0 ≤ p ∧ p ≤ 63) : f_X12_lackOf n [35, (b : Int), (k : Int), lawV t b 0, heard] g = some (yari 8 (yari 8 0 (if bcn heard < lawV t b 1 then 2 else 0)) (if lawV t b 2 < cst (u 0) (u 2) (u 3) (u (31 + 3 * b)) p then 4 else 0), g) := by
  have d := hW.wd
  have wb := hW.bt (b := b) (by omega)
  obtain ⟨H, h34, h35, hs⟩ := T
  have P : ∀ {j : Nat} {kk : Int}, (j, kk) ∈ rQL → g 35 j = kk := fun hm => H.1.2.2.2.p hm
  have l0 := lawOf_e (n := n) (w := 0) H.1 hWt (show b < 6 by omega) (by decide)
  have l1 := lawOf_e (n := n) (w := 1) H.1 hWt (show b < 6 by omega) (by decide)
  have l2 := lawOf_e (n := n) (w := 2) H.1 hWt (show b < 6 by omega) (by decide)
  rw [show ((0 : Nat) : Int) = 0 from rfl] at l0
  rw [show ((1 : Nat) : Int) = 1 from rfl] at l1
  rw [show ((2 : Nat) : Int) = 2 from rfl] at l2
  rw [e_X12_lackOf, e_X12_holderNow, xg_pos (P (j := 41) (kk := 16) (by decide)), xg_pos (by omega), Int.toNat_natCast, (hs k hk).2.2.2.2.2, h34, if_pos (by decide), xb_some, if_pos rfl, e_X12_lackOf_23, ones_e hn hh, xb_some, l1, xb_some]
  have fin : ∀ y : Int, xq_X12_lackOf_47 n [35, (b : Int), (k : Int), lawV t b 0, heard, -1, 0, y, 0] g = some (yari 8 (yari 8 0 y) (if lawV t b 2 < cst (u 0) (u 2) (u 3) (u (31 + 3 * b)) p then 4 else 0), g) := by
    intro y
    rw [e_X12_lackOf_47, xg_pos (P (j := 30) (kk := 10) (by decide)), xg_pos (by omega), xg_pos (P (j := 36) (kk := 13) (by decide)), xg_pos (by omega), Int.toNat_natCast, Int.toNat_natCast, (H.2.2.2.2.2.2.2 b hb).1, hp, costOf_e (by omega) H.2.2.1 H.2.2.2.2.1 H.2.2.2.2.2.1 d.1 d.2.2.1 d.2.2.2.1 wb.1 hpb, xb_some, l2, xb_some]
    by_cases c : lawV t b 2 < cst (u 0) (u 2) (u 3) (u (31 + 3 * b)) p
    · rw [if_pos c, if_pos c, e_X12_lackOf_82, l0, xb_some, if_neg (Int.lt_irrefl _)]
    · rw [if_neg c, if_neg c, e_X12_lackOf_82, l0, xb_some, if_neg (Int.lt_irrefl _)]
  by_cases c : bcn heard < lawV t b 1
  · rw [if_pos c, if_pos c, fin]
  · rw [if_neg c, if_neg c, fin]
theorem tU_W {u : Nat → Int} {i : Nat} {x : Int} (h : tW0 u) (hi : ∃ b, b < 6 ∧ ((i = 31 + 3 * b ∧ 0 ≤ x ∧ x ≤ 63) ∨ (i = 32 + 3 * b ∧ 0 ≤ x ∧ x ≤ 20))) : tW0 (tU u i x) := by
  obtain ⟨b0, hb0, hi⟩ := hi
  obtain ⟨h0, h1, h2, h3, h4, h5, h6, h7, h8, h9, h10⟩ := h
  have ne : ∀ j, j < 31 ∨ j = 49 → tU u i x j = u j := fun j hj => tU_ne (by omega)
  refine ⟨?_, ?_, ?_, ?_, ?_, ?_, ?_, ?_, fun c hc => ?_, fun s hs => ?_, fun b hb => ?_⟩
  · rw [ne _ (by omega)]; exact h0
  · rw [ne _ (by omega)]; exact h1
  · rw [ne _ (by omega)]; exact h2
  · rw [ne _ (by omega)]; exact h3
  · rw [ne _ (by omega)]; exact h4
  · rw [ne _ (by omega)]; exact h5
  · rw [ne _ (by omega)]; exact h6
  · rw [ne _ (by omega)]; exact h7
  · rw [ne _ (by omega), ne _ (by omega), ne _ (by omega), ne _ (by omega)]; exact h8 c hc
  · rw [ne _ (by omega), ne _ (by omega), ne _ (by omega), ne _ (by omega)]; exact h9 s hs
  · obtain ⟨k1, k2, k3⟩ := h10 b hb
    refine ⟨?_, ?_, ?_⟩
    · by_cases q : 31 + 3 * b = i
      · rw [q, tU_at]; omega
      · rw [tU_ne q]; exact k1
    · by_cases q : 32 + 3 * b = i
      · rw [q, tU_at]; omega
      · rw [tU_ne q]; exact k2
    · rw [tU_ne (by omega)]; exact k3
theorem hv.cell {s b : Nat} {x : Int} {t u : Nat → Int} {g : yH} (H : hv s t u g) (hb : b < 6) : hv s t (tU u (31 + 3 * b) x) (zup g 10 b x) := by
  obtain ⟨k1, k2, k3, k4, k5, k6, k7, k8⟩ := H
  refine ⟨k1.fr (fun a j w => zup_ne (by omega)), ?_, ?_, ?_, ?_, ?_, ?_, fun i hi => ?_⟩
  · rw [tU_ne (by omega)]; exact k2
  · rw [tU_ne (by omega), zup_ne (by omega)]; exact k3
  · rw [tU_ne (by omega), zup_ne (by omega)]; exact k4
  · rw [tU_ne (by omega), zup_ne (by omega)]; exact k5
  · rw [tU_ne (by omega), zup_ne (by omega)]; exact k6
  · rw [tU_ne (by omega), zup_ne (by omega)]; exact k7
  · rw [tU_ne (by omega)] at hi
    obtain ⟨j1, j2⟩ := k8 i hi
    rw [zup_ne (show ¬ (11 = 10 ∧ i = b) by omega), tU_ne (show 32 + 3 * i ≠ 31 + 3 * b by omega)]
    refine ⟨?_, j2⟩
    by_cases q : i = b
    · rw [q, zup_at, tU_at]
    · rw [zup_ne (by omega), tU_ne (by omega)]
      exact j1
theorem hv.voice {s b : Nat} {x : Int} {t u : Nat → Int} {g : yH} (H : hv s t u g) (hb : b < 6) : hv s t (tU u (32 + 3 * b) x) (zup g 11 b x) := by
  obtain ⟨k1, k2, k3, k4, k5, k6, k7, k8⟩ := H
  refine ⟨k1.fr (fun a j w => zup_ne (by omega)), ?_, ?_, ?_, ?_, ?_, ?_, fun i hi => ?_⟩
  · rw [tU_ne (by omega)]; exact k2
  · rw [tU_ne (by omega), zup_ne (by omega)]; exact k3
  · rw [tU_ne (by omega), zup_ne (by omega)]; exact k4
  · rw [tU_ne (by omega), zup_ne (by omega)]; exact k5
  · rw [tU_ne (by omega), zup_ne (by omega)]; exact k6
  · rw [tU_ne (by omega), zup_ne (by omega)]; exact k7
  · rw [tU_ne (by omega)] at hi
    obtain ⟨j1, j2⟩ := k8 i hi
    rw [zup_ne (show ¬ (10 = 11 ∧ i = b) by omega), tU_ne (show 31 + 3 * i ≠ 32 + 3 * b by omega)]
    refine ⟨j1, ?_⟩
    by_cases q : i = b
    · rw [q, zup_at, tU_at]
    · rw [zup_ne (by omega), tU_ne (by omega)]
      exact j2
theorem tst.up {s b : Nat} {x : Int} {t u u2 : Nat → Int} {g : yH} {a : Nat} (T : tst s t u g) (ha : a = 10 ∨ a = 11) (H2 : hv s t u2 (zup g a b x)) : tst s t u2 (zup g a b x) := by
  obtain ⟨H, h34, h35, hs⟩ := T
  refine ⟨H2, by rw [zup_ne (by omega)]; exact h34, by rw [zup_ne (by omega)]; exact h35, fun i hi => ?_⟩
  obtain ⟨x1, x2, x3, x4, x5, x6⟩ := hs i hi
  exact ⟨by rw [zup_ne (by omega)]; exact x1, by rw [zup_ne (by omega)]; exact x2, by rw [zup_ne (by omega)]; exact x3, by rw [zup_ne (by omega)]; exact x4, by rw [zup_ne (by omega)]; exact x5, by rw [zup_ne (by omega)]; exact x6⟩
/-- could claim shoal k from cell x -/
def cld (t u : Nat → Int) (b : Nat) (x p : Int) : Bool := decide (cst (u 0) (u 2) (u 3) x p ≤ lawV t b 2) && decide (lawV t b 1 ≤ bcn (hst u x (u (32 + 3 * b)) b (u 6).toNat))
theorem hst_c {u u2 : Nat → Int} {fr vo : Int} {a : Nat} (h0 : u2 0 = u 0) (h2 : u2 2 = u 2) (h3 : u2 3 = u 3) (h49 : u2 49 = u 49) (hc : ∀ i, i < 6 → i ≠ a → u2 (31 + 3 * i) = u (31 + 3 * i)) : ∀ k, k ≤ 6 → hst u2 fr vo a k = hst u fr vo a k := by
  intro k
  induction k with
  | zero => intro _; rfl
  | succ k ih =>
    intro hk
    have e : hq u2 fr vo a k = hq u fr vo a k := by
      unfold hq
      by_cases q : k = a
      · rw [decide_eq_false (fun w => w q), Bool.false_and, Bool.false_and]
      · rw [h0, h2, h3, h49, hc k (by omega) q]
    show (if hq u2 fr vo a k = true then yari 8 (hst u2 fr vo a k) (yari 5 1 (k : Int)) else hst u2 fr vo a k) = (if hq u fr vo a k = true then yari 8 (hst u fr vo a k) (yari 5 1 (k : Int)) else hst u fr vo a k)
    rw [e, ih (by omega)]
theorem could_e {n s b k : Nat} {x p : Int} {t u : Nat → Int} {g : yH} (hn : 17 ≤ n) (T : tst s t u g) (hWt : tW0 t) (hW : tW0 u) (hb : (b : Int) < u 6) (hk : k < 6) (hx : 0 ≤ x ∧ x ≤ 63) (hp : g 13 k = p) (hpb : 0 ≤ p ∧ p ≤ 63) : f_X12_couldFrom n [35, (b : Int), x, (k : Int)] g = some (if cld t u b x p = true then 1 else 0, g) := by
  have d := hW.wd
  have wb := hW.bt (b := b) (by omega)
  have HX := T.1.cell (b := b) (x := x) (by omega)
  have TX := T.up (Or.inl rfl) HX
  have WX : tW0 (tU u (31 + 3 * b) x) := tU_W hW ⟨b, by omega, Or.inl ⟨rfl, hx⟩⟩
  have P : ∀ {j : Nat} {kk : Int}, (j, kk) ∈ rQL → g 35 j = kk := fun hm => T.1.1.2.2.2.p hm
  have PX : ∀ {j : Nat} {kk : Int}, (j, kk) ∈ rQL → (zup g 10 b x) 35 j = kk := fun hm => HX.1.2.2.2.p hm
  have hbX : (b : Int) < tU u (31 + 3 * b) x 6 := by rw [tU_ne (by omega)]; exact hb
  have l0 := lawOf_e (n := n) (w := 0) HX.1 hWt (show b < 6 by omega) (by decide)
  rw [show ((0 : Nat) : Int) = 0 from rfl] at l0
  have hh := hrs_b (a := b) WX
  have gb : g 10 b = u (31 + 3 * b) := (T.1.2.2.2.2.2.2.2 b hb).1
  have eh : hrs (tU u (31 + 3 * b) x) b = hst u x (u (32 + 3 * b)) b (u 6).toNat := by
    unfold hrs
    rw [tU_at, tU_ne (show 32 + 3 * b ≠ 31 + 3 * b by omega), tU_ne (show 6 ≠ 31 + 3 * b by omega)]
    exact hst_c (tU_ne (by omega)) (tU_ne (by omega)) (tU_ne (by omega)) (tU_ne (by omega)) (fun i _ q => tU_ne (by omega)) _ (by omega)
  have lk := lack_e hn TX hWt WX hbX hk hh (show (zup g 10 b x) 13 k = p by rw [zup_ne (by omega)]; exact hp) hpb
  rw [eh, tU_at, tU_ne (show 0 ≠ 31 + 3 * b by omega), tU_ne (show 2 ≠ 31 + 3 * b by omega), tU_ne (show 3 ≠ 31 + 3 * b by omega)] at lk
  have hO := hearersOf_e (n := n) (by omega) HX WX hbX
  rw [eh] at hO
  rw [e_X12_couldFrom, xg_pos (P (j := 30) (kk := 10) (by decide)), xg_pos (by omega), xg_pos (P (j := 30) (kk := 10) (by decide)), xg_pos (by omega), xg_pos hx, Int.toNat_natCast, l0, xb_some, hO, xb_some, lk, xb_some, gb]
  unfold cld
  have fin : (zup (zup g 10 b x) 10 b (u (31 + 3 * b))) = g := by rw [← gb]; exact zup_id
  by_cases c1 : bcn (hst u x (u (32 + 3 * b)) b (u 6).toNat) < lawV t b 1
  · rw [if_pos c1]
    have e : (decide (cst (u 0) (u 2) (u 3) x p ≤ lawV t b 2) && decide (lawV t b 1 ≤ bcn (hst u x (u (32 + 3 * b)) b (u 6).toNat))) = false := by
      rw [decide_eq_false (show ¬ (lawV t b 1 ≤ bcn (hst u x (u (32 + 3 * b)) b (u 6).toNat)) by omega), Bool.and_false]
    rw [e]
    by_cases c2 : lawV t b 2 < cst (u 0) (u 2) (u 3) x p
    · rw [if_pos c2, if_neg (by decide +kernel), xg_pos (PX (j := 30) (kk := 10) (by decide)), xg_pos (by omega), xg_pos wb.1, fin, if_neg (by decide)]
    · rw [if_neg c2, if_neg (by decide +kernel), xg_pos (PX (j := 30) (kk := 10) (by decide)), xg_pos (by omega), xg_pos wb.1, fin, if_neg (by decide)]
  · rw [if_neg c1]
    by_cases c2 : lawV t b 2 < cst (u 0) (u 2) (u 3) x p
    · have e : (decide (cst (u 0) (u 2) (u 3) x p ≤ lawV t b 2) && decide (lawV t b 1 ≤ bcn (hst u x (u (32 + 3 * b)) b (u 6).toNat))) = false := by
        rw [decide_eq_false (show ¬ (cst (u 0) (u 2) (u 3) x p ≤ lawV t b 2) by omega), Bool.false_and]
      rw [if_pos c2, if_neg (by decide +kernel), xg_pos (PX (j := 30) (kk := 10) (by decide)), xg_pos (by omega), xg_pos wb.1, fin, e, if_neg (by decide)]
    · have e : (decide (cst (u 0) (u 2) (u 3) x p ≤ lawV t b 2) && decide (lawV t b 1 ≤ bcn (hst u x (u (32 + 3 * b)) b (u 6).toNat))) = true := by
        rw [decide_eq_true (show cst (u 0) (u 2) (u 3) x p ≤ lawV t b 2 by omega), decide_eq_true (show lawV t b 1 ≤ bcn (hst u x (u (32 + 3 * b)) b (u 6).toNat) by omega)]
        rfl
      rw [if_neg c2, if_pos (by decide +kernel), xg_pos (PX (j := 30) (kk := 10) (by decide)), xg_pos (by omega), xg_pos wb.1, fin, e, if_pos rfl]
end
section
/-! least: the reference -/
theorem zup_up {g : yH} {a j : Nat} {x y : Int} : zup (zup g a j x) a j y = zup g a j y := by
  funext a' j'
  by_cases w : a' = a ∧ j' = j
  · rw [w.1, w.2, zup_at, zup_at]
  · rw [zup_ne w, zup_ne w, zup_ne w]
theorem least_l {s b k : Nat} {x1 : Int} {t : Nat → Int} {g : yH} (T : tst s t t g) (hW : tW0 t) (hb : (b : Int) < t 6) (hk : (k : Int) < t 5) : ∀ (m v n : Nat) (x : Int), m + v = 21 → m + 17 ≤ n → 0 ≤ x ∧ x ≤ 20 →
    yR (xl_X12_least n 34 [35, x1, (b : Int), (k : Int), (v : Int)] (zup g 11 b x)) (fun r g2 => r = lsA t b (t (31 + 3 * b)) (nr t b (t (31 + 3 * b)) (t (19 + 3 * k))) m v ∧ ∀ a j, a ≠ 11 → g2 a j = g a j) := by
  have w5 := hW.sl
  have w6 := hW.wd.2.2.2.2
  have wb := hW.bt (b := b) (by omega)
  have sk := hW.sh (k := k) (by omega)
  intro m
  induction m with
  | zero =>
    intro v n x e1 e2 hx
    obtain ⟨n, rfl⟩ : ∃ n', n = n' + 1 := ⟨n - 1, by omega⟩
    rw [e_X12_least_34, if_pos (by omega)]
    exact yR.s ⟨rfl, fun a j w => zup_ne (by omega)⟩
  | succ m ih =>
    intro v n x e1 e2 hx
    obtain ⟨n, rfl⟩ : ∃ n', n = n' + 1 := ⟨n - 1, by omega⟩
    have P : ∀ {j : Nat} {kk : Int}, (j, kk) ∈ rQL → (zup g 11 b x) 35 j = kk := fun hm => by rw [zup_ne (by omega)]; exact T.1.1.2.2.2.p hm
    have TV : tst s t (tU t (32 + 3 * b) (v : Int)) (zup g 11 b (v : Int)) := T.up (Or.inr rfl) (T.1.voice (by omega))
    have WV : tW0 (tU t (32 + 3 * b) (v : Int)) := tU_W hW ⟨b, by omega, Or.inr ⟨rfl, by omega, by omega⟩⟩
    have hp : (zup g 11 b (v : Int)) 13 k = t (19 + 3 * k) := by
      rw [zup_ne (by omega), (T.2.2.2 k (by omega)).1]
      exact if_pos hk
    have cf := could_e (n := n) (x := t (31 + 3 * b)) (by omega) TV hW WV (show (b : Int) < tU t (32 + 3 * b) (v : Int) 6 by rw [tU_ne (by omega)]; exact hb) (show k < 6 by omega) wb.1 hp sk.1
    have gb : g 10 b = t (31 + 3 * b) := (T.1.2.2.2.2.2.2.2 b hb).1
    have ec : cld t (tU t (32 + 3 * b) (v : Int)) b (t (31 + 3 * b)) (t (19 + 3 * k)) = (nr t b (t (31 + 3 * b)) (t (19 + 3 * k)) && wit t b (t (31 + 3 * b)) (v : Int)) := by
      unfold cld nr wit
      rw [tU_at, tU_ne (show 0 ≠ 32 + 3 * b by omega), tU_ne (show 2 ≠ 32 + 3 * b by omega), tU_ne (show 3 ≠ 32 + 3 * b by omega), tU_ne (show 6 ≠ 32 + 3 * b by omega), hst_c (u := t) (u2 := tU t (32 + 3 * b) (v : Int)) (tU_ne (by omega)) (tU_ne (by omega)) (tU_ne (by omega)) (tU_ne (by omega)) (fun i _ q => tU_ne (by omega)) _ (by omega)]
    rw [e_X12_least_34, if_neg (by omega), xg_pos (P (j := 31) (kk := 11) (by decide)), xg_pos (by omega), xg_pos (P (j := 30) (kk := 10) (by decide)), xg_pos (by omega), Int.toNat_natCast, zup_ne (show ¬ (10 = 11 ∧ b = b) by omega), gb, zup_up, cf, xb_some, ec]
    show yR _ (fun r g2 => r = (if (nr t b (t (31 + 3 * b)) (t (19 + 3 * k)) && wit t b (t (31 + 3 * b)) (v : Int)) = true then (v : Int) else lsA t b (t (31 + 3 * b)) (nr t b (t (31 + 3 * b)) (t (19 + 3 * k))) m (v + 1)) ∧ ∀ a j, a ≠ 11 → g2 a j = g a j)
    cases (nr t b (t (31 + 3 * b)) (t (19 + 3 * k)) && wit t b (t (31 + 3 * b)) (v : Int)) with
    | false =>
      rw [if_pos (by decide), xg_pos (by omega), show (v : Int) + 1 = ((v + 1 : Nat) : Int) by omega, if_neg (by decide)]
      exact ih (v + 1) n _ (by omega) (by omega) (by omega)
    | true =>
      rw [if_neg (by decide), if_pos rfl]
      exact yR.s ⟨rfl, fun a j w => zup_ne (by omega)⟩
/-- laid as told: hand and begin together -/
def lyR (s : Nat) (t : Nat → Int) (g g2 : yH) : Prop := tst s t t g2 ∧ g2 35 49 = 0 ∧ (∀ i : Nat, (i : Int) < t 6 → g2 17 i = 0 ∧ g2 18 i = 0) ∧ ∀ a j, a ≤ 9 ∨ a = 12 ∨ (21 ≤ a ∧ a ≤ 34) → g2 a j = g a j
theorem layTold_e {n s : Nat} {t : Nat → Int} {g : yH} (hn : 20 ≤ n) (hq : rQ g) (h4 : ∀ j, j < 12 → 0 ≤ g 4 j ∧ g 4 j ≤ 2) (hs : (s : Int) < g 4 0) (ht : ∀ j, j < 50 → g 5 (50 * s + j) = t j) (hW : tW0 t) : yR (f_X12_layTold n [35, (s : Int)] g) (fun v g2 => v = 1 ∧ lyR s t g g2) := by
  refine yR.e e_X12_layTold ?_
  refine yR.b (hand_e (by omega) hq h4 hs ht hW) (fun v g1 ⟨rv, H⟩ => ?_)
  subst rv
  refine yR.f (by decide) ?_
  obtain ⟨g2, e2, b1, b2, b3, b4, b5, b6, b7⟩ := begR_e hn hW H.v H.2.1.2.2.2.2.1
  rw [e2, xb_some]
  refine yR.s ⟨rfl, ⟨b1, b2, b3, b5⟩, b4, b6, fun a j w => ?_⟩
  rw [b7 a j (by unfold bgK; omega) (by omega), H.2.2.2 a j (by omega) (by omega) (by omega)]
theorem layTold_n {n : Nat} {x : Int} {g : yH} (hq : rQ g) (h4 : ∀ j, j < 12 → 0 ≤ g 4 j ∧ g 4 j ≤ 2) (hs : ¬ (0 ≤ x ∧ x < g 4 0)) : f_X12_layTold n [35, x] g = some (0, g) := by
  rw [e_X12_layTold, hand_n hq h4 hs, xb_some, if_pos rfl]
theorem RR.ly {F : Prop} {s : Nat} {t : Nat → Int} {h g g2 : yH} (R : RR F h g) (hL : lnI h) (hm : h 4 1 ≤ 600) (H : lyR s t g g2) : RR F h g2 := R.gf hL hm H.1.1.1.2.2.2.P (fun a j w => H.2.2.2 a j (by omega))
theorem leastR_e {m s : Nat} {x y : Int} {t : Nat → Int} {g : yH} (hn : 60 ≤ m) (hq : rQ g) (h4 : ∀ j, j < 12 → 0 ≤ g 4 j ∧ g 4 j ≤ 2) (hs : (s : Int) < g 4 0) (ht : ∀ j, j < 50 → g 5 (50 * s + j) = t j) (hW : tW0 t) : yR (f_X12_least m [35, (s : Int), x, y] g) (fun v g2 => v = lstV t x y ∧ ∃ g1, lyR s t (zup g 35 0 0) g1 ∧ ∀ a j, a ≠ 11 → g2 a j = g1 a j) := by
  have w5 := hW.sl
  have w6 := hW.wd.2.2.2.2
  refine yR.e e_X12_least ?_
  refine yR.b (layTold_e (by omega) (c0_q hq) (c0_4 h4) (by rw [zup_ne (by omega)]; exact hs) (fun j hj => by rw [zup_ne (by omega)]; exact ht j hj) hW) (fun v g1 ⟨rv, H⟩ => ?_)
  subst rv
  refine yR.f (by decide) ?_
  rw [isBoat_e H.1.1.2.2.2.2.2.2.1 hW, xb_some]
  unfold lstV
  by_cases c : 0 ≤ x ∧ x < t 6
  · rw [if_pos c, if_neg (by decide), isThere_e H.1 hW, xb_some]
    by_cases c2 : 0 ≤ y ∧ y < t 5
    · obtain ⟨b, rfl⟩ : ∃ b : Nat, x = (b : Int) := ⟨x.toNat, by omega⟩
      obtain ⟨k, rfl⟩ : ∃ k : Nat, y = (k : Int) := ⟨y.toNat, by omega⟩
      rw [if_pos c2, if_neg (by decide), if_pos ⟨c, c2⟩, Int.toNat_natCast, Int.toNat_natCast]
      have gb : g1 11 b = t (32 + 3 * b) := (H.1.1.2.2.2.2.2.2.2 b c.2).2
      have wb := hW.bt (b := b) (by omega)
      have l := least_l (x1 := (s : Int)) H.1 hW c.2 c2.2 21 0 m (t (32 + 3 * b)) rfl (by omega) wb.2.1
      have e : zup g1 11 b (t (32 + 3 * b)) = g1 := by
        funext a j
        by_cases w : a = 11 ∧ j = b
        · rw [w.1, w.2, zup_at, gb]
        · rw [zup_ne w]
      rw [e] at l
      exact l.m (fun r g2 ⟨r1, r2⟩ => ⟨r1, g1, H, r2⟩)
    · rw [if_neg c2, if_pos rfl, if_neg (fun w => c2 w.2)]
      exact yR.s ⟨rfl, g1, H, fun _ _ _ => rfl⟩
  · rw [if_neg c, if_pos rfl, if_neg (fun w => c w.1)]
    exact yR.s ⟨rfl, g1, H, fun _ _ _ => rfl⟩
theorem RR_least {m n : Nat} {x k w : Int} {h g : yH} (hn : 40 ≤ n) (hm2 : 60 ≤ m) (R : RR True h g) (hw : cPw h) (hL : lnI h) (hm : h 4 1 ≤ 600) (hq : rQ g) (h4 : ∀ j, j < 12 → 0 ≤ g 4 j ∧ g 4 j ≤ 2) : ∃ v h2 g2, f_X11_least n [1, x, k, w] h = some (v, h2) ∧ f_X12_least m [35, x, k, w] g = some (v, g2) ∧ RR True h2 g2 ∧ ∀ a j, h2 a j = h a j := by
  have hP := R.1
  have n0 := R.n6 (j := 0) (by decide)
  have b0 := h4 0 (by decide)
  refine RR_ask (k := 0) (none' := -1) R hL hm hq h4 (fun c => ?_) (fun c => ?_) (fun s t e hs h6 h4' hW hS hp ht => ?_)
  · rw [e_X11_least, xg_pos (hP.p (by decide)), findSea_e hP (by omega), xb_some, if_neg c, if_pos (by decide)]
  · refine ⟨-1, zup g 35 0 0, ?_, rfl, R.c0 hL hm⟩
    rw [e_X12_least, layTold_n (c0_q hq) (c0_4 h4) (by rw [zup_ne (by omega)]; exact c), xb_some, if_pos rfl]
  · subst e
    obtain ⟨v, g2, e2, rv, g1, H, fr⟩ := leastR_e (m := m) (x := k) (y := w) hm2 hq h4 h4' ht hW
    subst rv
    have R1 : RR True h g1 := (R.c0 hL hm).ly hL hm H
    have q2 : rQ g2 := H.1.1.1.2.2.2.fr (fun j _ => fr _ _ (by omega))
    exact ⟨_, h, g2, leastC_e hn hP hw (by omega) h6 hS hp hW, e2, R1.gf hL hm q2.P (fun a j w => fr a j (by omega)), fun _ _ => rfl⟩
end
