/-! far, loud -/
theorem wh_b {u : Nat → Int} (h : tW0 u) : 4 ≤ u 0 * u 1 ∧ u 0 * u 1 ≤ 64 := by
  obtain ⟨h0, h1, -⟩ := h
  have a := Int.mul_le_mul h0.1 h1.1 (by omega) (by omega)
  have b := Int.mul_le_mul h0.2 h1.2 (by omega) (by omega)
  constructor
  · exact Int.le_trans (by decide) a
  · exact Int.le_trans b (by decide)
theorem hasCell_e {n b : Nat} {x : Int} {t : Nat → Int} {h : yH} (hS : cS b t h) (hW : tW0 t) : f_X6_hasCell n [(b : Int), x] h = some (if 0 ≤ x ∧ x < t 0 * t 1 then 1 else 0, h) := by
  have w := wh_b hW
  rw [eg_X6_hasCell]
  by_cases c : x < 0
  · rw [if_pos c, if_neg (fun q => by omega)]
  · rw [if_neg c, eg_X6_cells, Int.toNat_natCast, hS.1, hS.2.1]
    generalize t 0 * t 1 = z at *
    rw [xg_pos (by omega), xb_some]
    by_cases c2 : x < z
    · rw [if_pos c2, if_pos (by omega)]
    · rw [if_neg c2, if_neg (by omega)]
theorem isCell_e {n : Nat} {x : Int} {u : Nat → Int} {g : yH} (h24 : g 35 24 = u 0) (h25 : g 35 25 = u 1) (hW : tW0 u) : f_X12_isCell n [35, x] g = some (if 0 ≤ x ∧ x < u 0 * u 1 then 1 else 0, g) := by
  have w := wh_b hW
  rw [e_X12_isCell, h24, h25]
  generalize u 0 * u 1 = z at *
  rw [xg_pos (by omega), xg_pos (by omega)]
  by_cases c : 0 ≤ x ∧ x < z
  · rw [in_t (by omega), xb_some, xg_pos (by decide), if_pos c]
  · rw [in_f (by omega), xb_some, xg_pos (by decide), if_neg c]
theorem isBoat_e {n : Nat} {x : Int} {u : Nat → Int} {g : yH} (h28 : g 35 28 = u 6) (hW : tW0 u) : f_X12_isBoat n [35, x] g = some (if 0 ≤ x ∧ x < u 6 then 1 else 0, g) := by
  have w := hW.wd
  rw [e_X12_isBoat, h28, xg_pos (by omega)]
  by_cases c : 0 ≤ x ∧ x < u 6
  · rw [in_t (by omega), xb_some, xg_pos (by decide), if_pos c]
  · rw [in_f (by omega), xb_some, xg_pos (by decide), if_neg c]
def farV (t : Nat → Int) (x y : Int) : Int := if (0 ≤ x ∧ x < t 0 * t 1) ∧ (0 ≤ y ∧ y < t 0 * t 1) then cst (t 0) (t 2) (t 3) x y else -1
theorem farC_e {n s : Nat} {x y : Int} {t : Nat → Int} {h : yH} (hP : cP h) (hb : h 6 0 ≤ 2) (hs : (s : Int) < h 6 0) (hS : cS (20 + 10 * s) t h) (hW : tW0 t) : f_X11_far n [1, (s : Int), x, y] h = some (farV t x y, h) := by
  have w := wh_b hW
  have d := hW.wd
  rw [e_X11_far, xg_pos (hP.p (by decide)), findSea_e hP hb, xb_some, if_pos (show 0 ≤ (s : Int) ∧ (s : Int) < h 6 0 by omega), if_neg (by omega), xg_pos (by omega), show 20 + 10 * (s : Int) = ((20 + 10 * s : Nat) : Int) by omega, hasCell_e hS hW, xb_some]
  unfold farV
  by_cases c1 : 0 ≤ x ∧ x < t 0 * t 1
  · rw [if_pos c1, if_neg (by decide), xg_pos (by omega), hasCell_e hS hW, xb_some]
    by_cases c2 : 0 ≤ y ∧ y < t 0 * t 1
    · rw [if_pos c2, if_neg (by decide), xg_pos (by omega), if_pos ⟨c1, c2⟩, cost_e hS.1 hS.2.2.1 hS.2.2.2.1 d.1 d.2.2.2.1 (by omega) (by omega), xb_some]
    · rw [if_neg c2, if_pos rfl, if_neg (fun q => c2 q.2)]
  · rw [if_neg c1, if_pos rfl, if_neg (fun q => c1 q.1)]
theorem farR_e {m s : Nat} {x y : Int} {t : Nat → Int} {g : yH} (hn : 7 ≤ m) (hq : rQ g) (h4 : ∀ j, j < 12 → 0 ≤ g 4 j ∧ g 4 j ≤ 2) (hs : (s : Int) < g 4 0) (ht : ∀ j, j < 50 → g 5 (50 * s + j) = t j) (hW : tW0 t) : yR (f_X12_far m [35, (s : Int), x, y] g) (fun v g2 => v = farV t x y ∧ hdR s t (zup g 35 0 0) g2) := by
  have w := wh_b hW
  have d := hW.wd
  refine yR.e e_X12_far ?_
  refine yR.b (hand_e hn (c0_q hq) (c0_4 h4) (by rw [zup_ne (by omega)]; exact hs) (fun j hj => by rw [zup_ne (by omega)]; exact ht j hj) hW) (fun v g2 ⟨rv, H⟩ => ?_)
  subst rv
  obtain ⟨p0, p1, p2, p3, p5, p6⟩ := H.2.1
  refine yR.f (by decide) ?_
  rw [isCell_e p0 p1 hW, xb_some]
  unfold farV
  by_cases c1 : 0 ≤ x ∧ x < t 0 * t 1
  · rw [if_pos c1, if_neg (by decide), isCell_e p0 p1 hW, xb_some]
    by_cases c2 : 0 ≤ y ∧ y < t 0 * t 1
    · rw [if_pos c2, if_neg (by decide), if_pos ⟨c1, c2⟩, costOf_e (by omega) p0 p2 p3 d.1 d.2.2.1 d.2.2.2.1 (by omega) (by omega), xb_some]
      exact yR.s ⟨rfl, H⟩
    · rw [if_neg c2, if_pos rfl, if_neg (fun q => c2 q.2)]
      exact yR.s ⟨rfl, H⟩
  · rw [if_neg c1, if_pos rfl, if_neg (fun q => c1 q.1)]
    exact yR.s ⟨rfl, H⟩
theorem RR_far {m n : Nat} {x k w : Int} {h g : yH} (hn : 7 ≤ m) (R : RR True h g) (hL : lnI h) (hm : h 4 1 ≤ 600) (hq : rQ g) (h4 : ∀ j, j < 12 → 0 ≤ g 4 j ∧ g 4 j ≤ 2) : ∃ v h2 g2, f_X11_far n [1, x, k, w] h = some (v, h2) ∧ f_X12_far m [35, x, k, w] g = some (v, g2) ∧ RR True h2 g2 ∧ ∀ a j, h2 a j = h a j := by
  have hP := R.1
  have n0 := R.n6 (j := 0) (by decide)
  have b0 := h4 0 (by decide)
  refine RR_ask (k := 0) (none' := -1) R hL hm hq h4 (fun c => ?_) (fun c => ?_) (fun s t e hs h6 h4' hW hS hp ht => ?_)
  · rw [e_X11_far, xg_pos (hP.p (by decide)), findSea_e hP (by omega), xb_some, if_neg c, if_pos (by decide)]
  · refine ⟨-1, zup g 35 0 0, ?_, rfl, R.c0 hL hm⟩
    rw [e_X12_far, hand_n (c0_q hq) (c0_4 h4) (by rw [zup_ne (by omega)]; exact c), xb_some, if_pos rfl]
  · subst e
    obtain ⟨v, g2, e2, rv, H⟩ := farR_e (m := m) (x := k) (y := w) hn hq h4 h4' ht hW
    subst rv
    exact ⟨_, h, g2, farC_e hP (by omega) h6 hS hW, e2, (R.c0 hL hm).hd hL hm H, fun _ _ => rfl⟩
/-- how many hear b -/
def nHr (u : Nat → Int) (b : Nat) : Int := bcn (hrs u b)
theorem nHr_b {u : Nat → Int} {b : Nat} : 0 ≤ nHr u b ∧ nHr u b ≤ 6 := bcn_b
def ldA (u : Nat → Int) : Nat → Nat → Int → Int → Int
  | 0, _, best, _ => best
  | m + 1, k, best, most => if (k : Int) < u 6 then (if most < nHr u k then ldA u m (k + 1) (k : Int) (nHr u k) else ldA u m (k + 1) best most) else best
theorem loudest_l {b : Nat} {u : Nat → Int} {h : yH} (hS : cS b u h) (hp : cSp b h) (hW : tW0 u) : ∀ (m k n : Nat) (best most : Int), 7 - k = m → (k : Int) ≤ u 6 → m + 7 ≤ n → xl_X10_loudest n 7 [150, (b : Int), best, most, (k : Int)] h = some (ldA u m k best most, h) := by
  have w6 := hW.wd.2.2.2.2
  intro m
  induction m with
  | zero => intro k n best most e1 e2; omega
  | succ m ih =>
    intro k n best most e1 e2 e3
    obtain ⟨n, rfl⟩ : ∃ n', n = n' + 1 := ⟨n - 1, by omega⟩
    rw [e_X10_loudest_7, Int.toNat_natCast, hS.2.2.2.2.2.2.1]
    show _ = some (if (k : Int) < u 6 then (if most < nHr u k then ldA u m (k + 1) (k : Int) (nHr u k) else ldA u m (k + 1) best most) else best, h)
    by_cases c : (k : Int) < u 6
    · rw [if_pos c, if_pos c, asTold_e (by omega) hS hp hW c, xb_some, bc_e (hrs_b hW), xb_some, show bcn (hrs u k) = nHr u k from rfl]
      by_cases c2 : most < nHr u k
      · rw [if_pos c2, if_pos c2, xg_pos (by omega), show (k : Int) + 1 = ((k + 1 : Nat) : Int) by omega, ih (k + 1) n _ _ (by omega) (by omega) (by omega)]
      · rw [if_neg c2, if_neg c2, xg_pos (by omega), show (k : Int) + 1 = ((k + 1 : Nat) : Int) by omega, ih (k + 1) n _ _ (by omega) (by omega) (by omega)]
    · rw [if_neg c, if_neg c]
theorem loudR_l {s : Nat} {x1 : Int} {t u : Nat → Int} {g : yH} (H : hv s t u g) (hW : tW0 u) : ∀ (m k n : Nat) (best most : Int), 7 - k = m → (k : Int) ≤ u 6 → m + 17 ≤ n → xl_X12_loud n 22 [35, x1, best, most, (k : Int)] g = some (ldA u m k best most, g) := by
  have w6 := hW.wd.2.2.2.2
  intro m
  induction m with
  | zero => intro k n best most e1 e2; omega
  | succ m ih =>
    intro k n best most e1 e2 e3
    obtain ⟨n, rfl⟩ : ∃ n', n = n' + 1 := ⟨n - 1, by omega⟩
    rw [e_X12_loud_22, H.2.2.2.2.2.2.1]
    show _ = some (if (k : Int) < u 6 then (if most < nHr u k then ldA u m (k + 1) (k : Int) (nHr u k) else ldA u m (k + 1) best most) else best, g)
    by_cases c : (k : Int) < u 6
    · rw [if_pos c, if_pos c, hearersOf_e (by omega) H hW c, xb_some, ones_e (by omega) (hrs_b hW), xb_some, show bcn (hrs u k) = nHr u k from rfl]
      by_cases c2 : most < nHr u k
      · rw [if_pos c2, if_pos c2, e_X12_greater, if_neg (by omega), xb_some, xg_pos (by omega), show (k : Int) + 1 = ((k + 1 : Nat) : Int) by omega, ih (k + 1) n _ _ (by omega) (by omega) (by omega)]
      · rw [if_neg c2, if_neg c2, e_X12_greater]
        by_cases c3 : nHr u k < most
        · rw [if_pos c3, xb_some, xg_pos (by omega), show (k : Int) + 1 = ((k + 1 : Nat) : Int) by omega, ih (k + 1) n _ _ (by omega) (by omega) (by omega)]
        · rw [if_neg c3, xb_some, xg_pos (by omega), show nHr u k = most by omega, show (k : Int) + 1 = ((k + 1 : Nat) : Int) by omega, ih (k + 1) n _ _ (by omega) (by omega) (by omega)]
    · rw [if_neg c, if_neg c]
theorem RR_loud {m n : Nat} {x : Int} {h g : yH} (hn : 14 ≤ n) (hm2 : 24 ≤ m) (R : RR True h g) (hw : h 1 4 = 150) (hL : lnI h) (hm : h 4 1 ≤ 600) (hq : rQ g) (h4 : ∀ j, j < 12 → 0 ≤ g 4 j ∧ g 4 j ≤ 2) : ∃ v h2 g2, f_X11_loud n [1, x] h = some (v, h2) ∧ f_X12_loud m [35, x] g = some (v, g2) ∧ RR True h2 g2 ∧ ∀ a j, h2 a j = h a j := by
  have hP := R.1
  have n0 := R.n6 (j := 0) (by decide)
  have b0 := h4 0 (by decide)
  refine RR_ask (k := 0) (none' := -1) R hL hm hq h4 (fun c => ?_) (fun c => ?_) (fun s t e hs h6 h4' hW hS hp ht => ?_)
  · rw [e_X11_loud, xg_pos (hP.p (by decide)), findSea_e hP (by omega), xb_some, if_neg c, if_pos (by decide)]
  · refine ⟨-1, zup g 35 0 0, ?_, rfl, R.c0 hL hm⟩
    rw [e_X12_loud, hand_n (c0_q hq) (c0_4 h4) (by rw [zup_ne (by omega)]; exact c), xb_some, if_pos rfl]
  · subst e
    obtain ⟨v, g2, e2, rv, H⟩ := hand_e (n := m) (s := s) (t := t) (by omega) (c0_q hq) (c0_4 h4) (by rw [zup_ne (by omega)]; exact h4') (fun j hj => by rw [zup_ne (by omega)]; exact ht j hj) hW
    subst rv
    have w6 := hW.wd.2.2.2.2
    refine ⟨ldA t 7 0 (-1) (-1), h, g2, ?_, ?_, (R.c0 hL hm).hd hL hm H, fun _ _ => rfl⟩
    · rw [e_X11_loud, xg_pos (hP.p (by decide)), findSea_e hP (by omega), xb_some, if_pos (show 0 ≤ (s : Int) ∧ (s : Int) < h 6 0 by omega), if_neg (by omega), xg_pos hw, xg_pos (by omega), e_X10_loudest, show 20 + 10 * (s : Int) = ((20 + 10 * s : Nat) : Int) by omega]
      have := loudest_l hS hp hW 7 0 n (-1) (-1) rfl w6.1 hn
      rw [show ((0 : Nat) : Int) = 0 from rfl] at this
      rw [this, xb_some]
    · rw [e_X12_loud, e2, xb_some, if_neg (by decide)]
      have := loudR_l (x1 := (s : Int)) H.v hW 7 0 m (-1) (-1) rfl w6.1 hm2
      rw [show ((0 : Nat) : Int) = 0 from rfl] at this
      exact this
