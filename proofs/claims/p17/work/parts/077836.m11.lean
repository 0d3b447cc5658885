section
/-! two boats together: the reference -/
theorem yq64F : ∀ i j : Fin 64, yari 3 ((64 * i.val + j.val : Nat) : Int) 64 = (i.val : Int) ∧ yari 4 ((64 * i.val + j.val : Nat) : Int) 64 = (j.val : Int) := by decide +kernel
theorem yq64 {i j : Nat} (hi : i < 64) (hj : j < 64) : yari 3 ((64 * i + j : Nat) : Int) 64 = (i : Int) ∧ yari 4 ((64 * i + j : Nat) : Int) 64 = (j : Int) := yq64F ⟨i, hi⟩ ⟨j, hj⟩
/-- the reference's two boats, wherever they stand now -/
def prG (a o : Nat) (g G : yH) : Prop := (∀ i j, i ≠ 10 → G i j = g i j) ∧ ∀ x y : Int, zup (zup G 10 a x) 10 o y = zup (zup g 10 a x) 10 o y
theorem prG.r {a o : Nat} {g : yH} : prG a o g g := ⟨fun _ _ _ => rfl, fun _ _ => rfl⟩
theorem prG.s {a o : Nat} {g G : yH} {x y : Int} (hao : o ≠ a) (H : prG a o g G) : prG a o g (zup (zup g 10 a x) 10 o y) := by
  refine ⟨fun i j w => by rw [zup_ne (by omega), zup_ne (by omega)], fun x2 y2 => ?_⟩
  funext i j
  by_cases w : i = 10 ∧ j = o
  · rw [w.1, w.2, zup_at, zup_at]
  · rw [zup_ne w, zup_ne w]
    by_cases w2 : i = 10 ∧ j = a
    · rw [w2.1, w2.2, zup_at, zup_at]
    · rw [zup_ne w2, zup_ne w2, zup_ne w, zup_ne w2]
theorem prR_l {s a o : Nat} {x1 x4 : Int} {t : Nat → Int} {g : yH} (T : tst s t t g) (hW : tW0 t) (ha : (a : Int) < t 6) (ho : (o : Int) < t 6) (hao : o ≠ a) : ∀ (mm p n : Nat) (G : yH), mm + p = 64 * (t 0 * t 1).toNat → mm + 40 ≤ n → prG a o g G →
    yR (xl_X12_pair n 55 [35, x1, (a : Int), (o : Int), x4, bsC (prF t a o) 0 p, bsV (prF t a o) p, (p : Int)] G) (fun r g2 => r = (if x4 = 0 then yari 3 (bsC (prF t a o) 0 (64 * (t 0 * t 1).toNat)) 64 else if x4 = 1 then yari 4 (bsC (prF t a o) 0 (64 * (t 0 * t 1).toNat)) 64 else bsV (prF t a o) (64 * (t 0 * t 1).toNat)) ∧ ∀ i j, i ≠ 10 → g2 i j = g i j) := by
  have Mb := M_b hW
  have w6 := hW.wd.2.2.2.2
  have d := hW.wd
  have w5 := hW.sl
  have em : 64 * t 0 * t 1 = 64 * (t 0 * t 1) := Int.mul_assoc _ _ _
  intro mm
  induction mm with
  | zero =>
    intro p n G e1 e2 H
    obtain ⟨n, rfl⟩ : ∃ n', n = n' + 1 := ⟨n - 1, by omega⟩
    have h24 : G 35 24 = t 0 := (H.1 _ _ (by omega)).trans T.1.2.2.1
    have h25 : G 35 25 = t 1 := (H.1 _ _ (by omega)).trans T.1.2.2.2.1
    rw [e_X12_pair_55, h24, h25, em, xg_pos (by omega), xg_pos (by omega), if_neg (by omega), show 64 * (t 0 * t 1).toNat = p by omega]
    by_cases c : x4 = 0
    · rw [if_pos c, if_pos c]
      exact yR.s ⟨rfl, H.1⟩
    · rw [if_neg c, if_neg c]
      by_cases c2 : x4 = 1
      · rw [if_pos c2, if_pos c2]
        exact yR.s ⟨rfl, H.1⟩
      · rw [if_neg c2, if_neg c2]
        exact yR.s ⟨rfl, H.1⟩
  | succ mm ih =>
    intro p n G e1 e2 H
    obtain ⟨n, rfl⟩ : ∃ n', n = n' + 1 := ⟨n - 1, by omega⟩
    have h24 : G 35 24 = t 0 := (H.1 _ _ (by omega)).trans T.1.2.2.1
    have h25 : G 35 25 = t 1 := (H.1 _ _ (by omega)).trans T.1.2.2.2.1
    have h30 : G 35 30 = 10 := (H.1 _ _ (by omega)).trans (T.1.1.2.2.2.p (j := 30) (k := 10) (by decide))
    obtain ⟨y3, y4⟩ := yq64 (i := p / 64) (j := p % 64) (by omega) (by omega)
    rw [show 64 * (p / 64) + p % 64 = p by omega] at y3 y4
    have d2 : bsV (prF t a o) (p + 1) = if bsV (prF t a o) p < prF t a o p then prF t a o p else bsV (prF t a o) p := rfl
    have d0 : bsC (prF t a o) 0 (p + 1) = if bsV (prF t a o) p < prF t a o p then (p : Int) else bsC (prF t a o) 0 p := rfl
    rw [e_X12_pair_55, h24, h25, em, xg_pos (by omega), xg_pos (by omega), if_pos (by omega), xg_pos (by omega), y4, y3]
    by_cases cM : ((p % 64 : Nat) : Int) < t 0 * t 1
    · have hx : 0 ≤ ((p / 64 : Nat) : Int) ∧ ((p / 64 : Nat) : Int) ≤ 63 := by omega
      have hy : 0 ≤ ((p % 64 : Nat) : Int) ∧ ((p % 64 : Nat) : Int) ≤ 63 := by omega
      have fe : prF t a o p = fsV t (yari 8 (pbV t a o ((p / 64 : Nat) : Int) ((p % 64 : Nat) : Int)) (pbV t o a ((p % 64 : Nat) : Int) ((p / 64 : Nat) : Int))) := if_pos cM
      obtain ⟨x, ex⟩ : ∃ x : Int, x = ((p / 64 : Nat) : Int) := ⟨_, rfl⟩
      obtain ⟨y, ey⟩ : ∃ y : Int, y = ((p % 64 : Nat) : Int) := ⟨_, rfl⟩
      rw [← ex, ← ey] at fe
      rw [← ex] at hx y3
      rw [← ey] at hy y4 cM
      rw [← ex, ← ey]
      have T1 := T.up (Or.inl rfl) (T.1.cell (b := a) (x := x) (by omega))
      have T2 : tst s t (tU (tU t (31 + 3 * a) x) (31 + 3 * o) y) (zup (zup g 10 a x) 10 o y) := T1.up (Or.inl rfl) (T1.1.cell (b := o) (x := y) (by omega))
      have W1 : tW0 (tU t (31 + 3 * a) x) := tU_W hW ⟨a, by omega, Or.inl ⟨rfl, hx⟩⟩
      have W2 : tW0 (tU (tU t (31 + 3 * a) x) (31 + 3 * o) y) := tU_W W1 ⟨o, by omega, Or.inl ⟨rfl, hy⟩⟩
      obtain ⟨u, eu⟩ : ∃ u : Nat → Int, u = tU (tU t (31 + 3 * a) x) (31 + 3 * o) y := ⟨_, rfl⟩
      rw [← eu] at T2 W2
      have ue : ∀ i, i ≠ 31 + 3 * a → i ≠ 31 + 3 * o → u i = t i := fun i q1 q2 => by rw [eu, tU_ne q2, tU_ne q1]
      have uo : u (31 + 3 * o) = y := by rw [eu, tU_at]
      have ua : u (31 + 3 * a) = x := by rw [eu, tU_ne (by omega), tU_at]
      have w1 := wv_o (a := a) (o := o) (x := x) (y := y) (u := u) hW ha ho hao ue uo
      have w2 := wv_o (a := o) (o := a) (x := y) (y := x) (u := u) hW ho ha (fun q => hao q.symm) (fun i q1 q2 => ue i q2 q1) ua
      have cl : ∀ (b : Nat) (z : Int) (W : Int), b = a ∨ b = o → bcn (hst u z (t (32 + 3 * b)) b (t 6).toNat) = W → ∀ k : Nat, cld t u b z (t (19 + 3 * k)) = (nr t b z (t (19 + 3 * k)) && decide (lawV t b 1 ≤ W)) := fun b z W hb hw k => by
        unfold cld nr
        rw [ue 0 (by omega) (by omega), ue 2 (by omega) (by omega), ue 3 (by omega) (by omega), ue 6 (by omega) (by omega), ue (32 + 3 * b) (by omega) (by omega), hw]
      have g10a : (zup (zup g 10 a x) 10 o y) 10 a = x := by rw [zup_ne (by omega), zup_at]
      have s1 := sfR_e (n := n) (by omega) T2 hW W2 (show (a : Int) < u 6 by rw [ue 6 (by omega) (by omega)]; exact ha) hx g10a (cl a x _ (Or.inl rfl) w1)
      have s2 := sfR_e (n := n) (by omega) T2 hW W2 (show (o : Int) < u 6 by rw [ue 6 (by omega) (by omega)]; exact ho) hy (zup_at _ _ _ _) (cl o y _ (Or.inr rfl) w2)
      have b1 := pbV_b (t := t) (a := a) (o := o) (x := x) (y := y) hW
      have b2 := pbV_b (t := t) (a := o) (o := a) (x := y) (y := x) hW
      have b3 := or15 b1 b2
      have fo := fsR_e (n := n) (x := yari 8 (pbV t a o x y) (pbV t o a y x)) (by omega) T2 hW (by omega)
      rw [← fe] at fo
      have nx := ih (p + 1) n (zup (zup g 10 a x) 10 o y) (by omega) (by omega) (prG.s hao H)
      rw [if_pos cM, xg_pos h30, xg_pos (by omega), xg_pos hx, xg_pos h30, xg_pos (by omega), xg_pos hy, Int.toNat_natCast a, Int.toNat_natCast o, H.2]
      have s1' : f_X12_shoalsFrom n [35, (a : Int)] (zup (zup g 10 a x) 10 o y) = some (pbV t a o x y, zup (zup g 10 a x) 10 o y) := s1
      have s2' : f_X12_shoalsFrom n [35, (o : Int)] (zup (zup g 10 a x) 10 o y) = some (pbV t o a y x, zup (zup g 10 a x) 10 o y) := s2
      rw [s1', xb_some, s2', xb_some, fo, xb_some]
      by_cases c : bsV (prF t a o) p < prF t a o p
      · rw [if_pos c] at d2 d0
        rw [d2, d0] at nx
        rw [if_pos c, gr_e, xb_some, Int.max_eq_right (by omega), xg_pos (by omega), show (p : Int) + 1 = ((p + 1 : Nat) : Int) by omega]
        exact nx
      · rw [if_neg c] at d2 d0
        rw [d2, d0] at nx
        rw [if_neg c, gr_e, xb_some, Int.max_eq_left (by omega), xg_pos (by omega), show (p : Int) + 1 = ((p + 1 : Nat) : Int) by omega]
        exact nx
    · have e : prF t a o p = -1 := if_neg cM
      have bg := bsV_g (f := prF t a o) p
      have c : ¬ (bsV (prF t a o) p < prF t a o p) := by omega
      rw [if_neg c] at d2 d0
      have nx := ih (p + 1) n G (by omega) (by omega) H
      rw [d2, d0] at nx
      rw [if_neg cM, xg_pos (by omega), show (p : Int) + 1 = ((p + 1 : Nat) : Int) by omega]
      exact nx
/-- what pair answers -/
def prV (t : Nat → Int) (x y w : Int) : Int := if ((0 ≤ x ∧ x < t 6) ∧ 0 ≤ y ∧ y < t 6) ∧ x ≠ y then (if w = 0 then yari 3 (bsC (prF t x.toNat y.toNat) 0 (64 * (t 0 * t 1).toNat)) 64 else if w = 1 then yari 4 (bsC (prF t x.toNat y.toNat) 0 (64 * (t 0 * t 1).toNat)) 64 else bsV (prF t x.toNat y.toNat) (64 * (t 0 * t 1).toNat)) else -1
theorem prR_e {m s : Nat} {x y w : Int} {t : Nat → Int} {g : yH} (hn : 4400 ≤ m) (hw : 0 ≤ w ∧ w ≤ 2) (hq : rQ g) (h4 : ∀ j, j < 12 → 0 ≤ g 4 j ∧ g 4 j ≤ 2) (hs : (s : Int) < g 4 0) (ht : ∀ j, j < 50 → g 5 (50 * s + j) = t j) (hW : tW0 t) : yR (f_X12_pair m [35, (s : Int), x, y, w] g) (fun v g2 => v = prV t x y w ∧ ∃ g1, lyR s t (zup g 35 0 0) g1 ∧ ∀ a j, a ≠ 10 → g2 a j = g1 a j) := by
  have Mb := M_b hW
  have w6 := hW.wd.2.2.2.2
  refine yR.e e_X12_pair ?_
  rw [in_t hw, xb_some, if_neg (by decide)]
  refine yR.b (layTold_e (by omega) (c0_q hq) (c0_4 h4) (by rw [zup_ne (by omega)]; exact hs) (fun j hj => by rw [zup_ne (by omega)]; exact ht j hj) hW) (fun v g1 ⟨rv, H⟩ => ?_)
  subst rv
  refine yR.f (by decide) ?_
  rw [isBoat_e H.1.1.2.2.2.2.2.2.1 hW, xb_some]
  unfold prV
  by_cases c : 0 ≤ x ∧ x < t 6
  · rw [if_pos c, if_neg (by decide), isBoat_e H.1.1.2.2.2.2.2.2.1 hW, xb_some]
    by_cases c2 : 0 ≤ y ∧ y < t 6
    · rw [if_pos c2, if_neg (by decide)]
      by_cases c3 : x = y
      · rw [if_pos c3, if_neg (by exact fun q => q.2 c3)]
        exact yR.s ⟨rfl, g1, H, fun _ _ _ => rfl⟩
      · obtain ⟨a, rfl⟩ : ∃ a : Nat, x = (a : Int) := ⟨x.toNat, by omega⟩
        obtain ⟨o, rfl⟩ : ∃ o : Nat, y = (o : Int) := ⟨y.toNat, by omega⟩
        have l := prR_l (x1 := (s : Int)) (x4 := w) H.1 hW c.2 c2.2 (show o ≠ a by omega) (64 * (t 0 * t 1).toNat) 0 m g1 (by omega) (by omega) prG.r
        rw [if_neg c3, if_pos (by exact ⟨⟨c, c2⟩, c3⟩), Int.toNat_natCast, Int.toNat_natCast]
        exact l.m (fun r g2 ⟨r1, r2⟩ => ⟨r1, g1, H, r2⟩)
    · rw [if_neg c2, if_pos rfl, if_neg (by exact fun q => c2 q.1.2)]
      exact yR.s ⟨rfl, g1, H, fun _ _ _ => rfl⟩
  · rw [if_neg c, if_pos rfl, if_neg (by exact fun q => c q.1.1)]
    exact yR.s ⟨rfl, g1, H, fun _ _ _ => rfl⟩
theorem RR_pair {m n : Nat} {x y z w : Int} {h g : yH} (hn : 4400 ≤ n) (hm2 : 4400 ≤ m) (R : RR True h g) (h15 : h 1 5 = 170) (hc : cPc h) (hL : lnI h) (hm : h 4 1 ≤ 600) (hq : rQ g) (h4 : ∀ j, j < 12 → 0 ≤ g 4 j ∧ g 4 j ≤ 2) : ∃ v h2 g2, f_X11_pair n [1, x, y, z, w] h = some (v, h2) ∧ f_X12_pair m [35, x, y, z, w] g = some (v, g2) ∧ chK h g h2 g2 := by
  have hP := R.1
  have n0 := R.n6 (j := 0) (by decide)
  have b0 := h4 0 (by decide)
  have p3 : h 1 0 = 3 := hP.p (by decide)
  -- what the class answers where it doesn't ask
  have cN : ¬ (0 ≤ w ∧ w ≤ 2) → f_X11_pair n [1, x, y, z, w] h = some (-1, h) := fun cw => by
    rw [e_X11_pair, xg_pos p3, findSea_e hP (by omega), xb_some]
    by_cases c : 0 ≤ x ∧ x < h 6 0
    · obtain ⟨s, rfl⟩ : ∃ s : Nat, x = (s : Int) := ⟨x.toNat, by omega⟩
      obtain ⟨t, hS, hp, ht, hW⟩ := R.sea (s := s) (by omega) (by omega)
      rw [if_pos c, if_neg (by omega), show 20 + 10 * (s : Int) = ((20 + 10 * s : Nat) : Int) by omega]
      by_cases c3 : y = z
      · rw [if_pos c3]
      · rw [if_neg c3, xg_pos (by omega), hasBoat_e hS, xb_some]
        by_cases c1 : 0 ≤ y ∧ y < t 6
        · rw [if_pos c1, if_neg (by decide), xg_pos (by omega), hasBoat_e hS, xb_some]
          by_cases c2 : 0 ≤ z ∧ z < t 6
          · rw [if_pos c2, if_neg (by decide)]
            by_cases c4 : w < 0
            · rw [if_pos c4]
            · rw [if_neg c4, if_pos (by omega)]
          · rw [if_neg c2, if_pos rfl]
        · rw [if_neg c1, if_pos rfl]
    · rw [if_neg c, if_pos (by decide)]
  by_cases cw : 0 ≤ w ∧ w ≤ 2
  · by_cases c : 0 ≤ x ∧ x < g 4 0
    · obtain ⟨s, rfl⟩ : ∃ s : Nat, x = (s : Int) := ⟨x.toNat, by omega⟩
      obtain ⟨t, hS, hp, ht, hW⟩ := R.sea (s := s) (by omega) c.2
      obtain ⟨v, g2, e2, rv, g1, H, fr⟩ := prR_e (m := m) (x := y) (y := z) (w := w) hm2 cw hq h4 c.2 ht hW
      have fr' : ∀ i j, i ≠ 10 → i ≠ 26 → i ≠ 27 → i ≠ 28 → g2 i j = g1 i j := fun i j w1 _ _ _ => fr i j w1
      unfold prV at rv
      by_cases c3 : y = z
      · rw [if_neg (by exact fun q => q.2 c3)] at rv
        refine ⟨v, h, g2, ?_, e2, chK.l R hL hm H fr' hc (fun _ _ _ => rfl)⟩
        rw [e_X11_pair, xg_pos p3, findSea_e hP (by omega), xb_some, if_pos (show 0 ≤ (s : Int) ∧ (s : Int) < h 6 0 by omega), if_neg (by omega), if_pos c3, rv]
      · by_cases c1 : 0 ≤ y ∧ y < t 6
        · by_cases c2 : 0 ≤ z ∧ z < t 6
          · obtain ⟨a, rfl⟩ : ∃ a : Nat, y = (a : Int) := ⟨y.toNat, by omega⟩
            obtain ⟨o, rfl⟩ : ∃ o : Nat, z = (o : Int) := ⟨z.toNat, by omega⟩
            rw [if_pos (by exact ⟨⟨c1, c2⟩, c3⟩), Int.toNat_natCast, Int.toNat_natCast] at rv
            obtain ⟨h2, f1, f2, f3, f4, i, j, hi, hj, f5, f6, f7⟩ := prC_e (n := n) hn (show 20 + 10 * s + 8 ≤ 170 by omega) hW c1.2 c2.2 hS hp hc
            obtain ⟨y3, y4⟩ := yq64 hi hj
            rw [f7, y3, y4] at rv
            refine ⟨v, h2, g2, ?_, e2, chK.l R hL hm H fr' f3 f2⟩
            have k15 : h2 1 5 = 170 := (f2 _ _ (by omega)).trans h15
            rw [e_X11_pair, xg_pos p3, findSea_e hP (by omega), xb_some, if_pos (show 0 ≤ (s : Int) ∧ (s : Int) < h 6 0 by omega), if_neg (by omega), if_neg c3, xg_pos (by omega), show 20 + 10 * (s : Int) = ((20 + 10 * s : Nat) : Int) by omega, hasBoat_e hS, xb_some, if_pos c1, if_neg (by decide), xg_pos (by omega), hasBoat_e hS, xb_some, if_pos c2, if_neg (by decide), if_neg (by omega), if_neg (by omega), xg_pos h15, xg_pos (by omega), f1, xb_some, rv]
            by_cases k2 : w = 2
            · rw [if_pos k2, xg_pos k15, f4, if_neg (by omega), if_neg (by omega)]
            · rw [if_neg k2]
              by_cases k0 : w = 0
              · rw [if_pos k0, if_pos k0, xg_pos k15, f5]
              · rw [if_neg k0, if_neg k0, xg_pos k15, f6, if_pos (by omega)]
          · rw [if_neg (by exact fun q => c2 q.1.2)] at rv
            refine ⟨v, h, g2, ?_, e2, chK.l R hL hm H fr' hc (fun _ _ _ => rfl)⟩
            rw [e_X11_pair, xg_pos p3, findSea_e hP (by omega), xb_some, if_pos (show 0 ≤ (s : Int) ∧ (s : Int) < h 6 0 by omega), if_neg (by omega), if_neg c3, xg_pos (by omega), show 20 + 10 * (s : Int) = ((20 + 10 * s : Nat) : Int) by omega, hasBoat_e hS, xb_some, if_pos c1, if_neg (by decide), xg_pos (by omega), hasBoat_e hS, xb_some, if_neg c2, if_pos rfl, rv]
        · rw [if_neg (by exact fun q => c1 q.1.1)] at rv
          refine ⟨v, h, g2, ?_, e2, chK.l R hL hm H fr' hc (fun _ _ _ => rfl)⟩
          rw [e_X11_pair, xg_pos p3, findSea_e hP (by omega), xb_some, if_pos (show 0 ≤ (s : Int) ∧ (s : Int) < h 6 0 by omega), if_neg (by omega), if_neg c3, xg_pos (by omega), show 20 + 10 * (s : Int) = ((20 + 10 * s : Nat) : Int) by omega, hasBoat_e hS, xb_some, if_neg c1, if_pos rfl, rv]
    · refine ⟨-1, h, zup g 35 0 0, ?_, ?_, chK.n R hL hm hc⟩
      · rw [e_X11_pair, xg_pos p3, findSea_e hP (by omega), xb_some, if_neg (show ¬ (0 ≤ x ∧ x < h 6 0) by omega), if_pos (by decide)]
      · rw [e_X12_pair, in_t cw, xb_some, if_neg (by decide), layTold_n (c0_q hq) (c0_4 h4) (by rw [zup_ne (by omega)]; exact c), xb_some, if_pos rfl]
  · refine ⟨-1, h, zup g 35 0 0, cN cw, ?_, chK.n R hL hm hc⟩
    rw [e_X12_pair, in_f cw, xb_some, if_pos rfl]
end
section
/-! rows between cells, and what a row changes -/
def abV (a : Int) : Int := if 0 ≤ a then a else -a
def rwB (W x y : Int) : Int := abV (y / W - x / W) + abV (y % W - x % W)
theorem abV_c (a : Int) : (0 ≤ a ∧ abV a = a) ∨ (a < 0 ∧ abV a = -a) := by
  unfold abV
  by_cases c : 0 ≤ a
  · rw [if_pos c]; exact Or.inl ⟨c, rfl⟩
  · rw [if_neg c]; exact Or.inr ⟨by omega, rfl⟩
theorem rwC_e {n b : Nat} {x y W : Int} {h : yH} (h0 : h b 0 = W) (hW : 1 ≤ W ∧ W ≤ 8) (hx : 0 ≤ x ∧ x ≤ 63) (hy : 0 ≤ y ∧ y ≤ 63) : f_X6_rowsBetween n [(b : Int), x, y] h = some (rwB W x y, h) := by
  obtain ⟨q1, q2⟩ := yqr hx hW
  obtain ⟨q3, q4⟩ := yqr hy hW
  obtain ⟨b1, b2⟩ := yqr_b hx hW
  obtain ⟨b3, b4⟩ := yqr_b hy hW
  have r1 : f_X6_rowOf n [(b : Int), x] h = some (x / W, h) := by rw [e_X6_rowOf, Int.toNat_natCast, h0, if_neg (by omega), xg_pos (by omega), q1]
  have r2 : f_X6_rowOf n [(b : Int), y] h = some (y / W, h) := by rw [e_X6_rowOf, Int.toNat_natCast, h0, if_neg (by omega), xg_pos (by omega), q3]
  have c1 : f_X6_columnOf n [(b : Int), x] h = some (x % W, h) := by rw [e_X6_columnOf, Int.toNat_natCast, h0, if_neg (by omega), xg_pos (by omega), q2]
  have c2 : f_X6_columnOf n [(b : Int), y] h = some (y % W, h) := by rw [e_X6_columnOf, Int.toNat_natCast, h0, if_neg (by omega), xg_pos (by omega), q4]
  rw [e_X6_rowsBetween, r2, xb_some, r1, xb_some, xg_pos (by omega), xg_pos (by omega), c2, xb_some, c1, xb_some, xg_pos (by omega), xg_pos (by omega), xg_pos (by split <;> split <;> omega)]
  rfl
theorem stF {W H p : Int} (hW : 2 ≤ W ∧ W ≤ 8) (hp : 0 ≤ p ∧ p < W * H) : (0 ≤ p / W ∧ p / W ≤ H - 1 ∧ 0 ≤ p % W ∧ p % W ≤ W - 1) ∧ ((p - W) / W = p / W - 1 ∧ (p - W) % W = p % W) ∧ ((p + W) / W = p / W + 1 ∧ (p + W) % W = p % W) ∧ (p % W < W - 1 → (p + 1) / W = p / W ∧ (p + 1) % W = p % W + 1) ∧ (0 < p % W → (p - 1) / W = p / W ∧ (p - 1) % W = p % W - 1) := by
  rcases W_c hW with rfl | rfl | rfl | rfl | rfl | rfl | rfl <;> refine ⟨⟨?_, ?_, ?_, ?_⟩, ⟨?_, ?_⟩, ⟨?_, ?_⟩, fun c => ⟨?_, ?_⟩, fun c => ⟨?_, ?_⟩⟩ <;> omega
theorem besV_n {W H p s : Int} (h : ¬ (0 ≤ s ∧ s < 4)) : besV W H p s = -1 := by
  unfold besV
  rw [if_neg (by omega), if_neg (by omega), if_neg (by omega), if_neg (by omega)]
/-- a row brings one nearer by one at most -/
theorem rw_s {W H p q s : Int} (hW : 2 ≤ W ∧ W ≤ 8) (hp : 0 ≤ p ∧ p < W * H) (hs : besV W H p s ≠ -1) : rwB W p q ≤ rwB W (besV W H p s) q + 1 := by
  obtain ⟨-, ⟨f1, f2⟩, ⟨f3, f4⟩, f5, f6⟩ := stF hW hp
  have c4 : 0 ≤ s ∧ s < 4 := by
    by_cases c : 0 ≤ s ∧ s < 4
    · exact c
    · exact absurd (besV_n c) hs
  rcases (show s = 0 ∨ s = 1 ∨ s = 2 ∨ s = 3 by omega) with rfl | rfl | rfl | rfl
  · rw [besV_0] at hs ⊢
    by_cases c : 0 < p / W
    · rw [if_pos c]
      unfold rwB
      rw [f1, f2]
      rcases abV_c (q / W - p / W) with w | w <;> rcases abV_c (q / W - (p / W - 1)) with w2 | w2 <;> omega
    · rw [if_neg c] at hs
      exact absurd rfl hs
  · rw [besV_1] at hs ⊢
    by_cases c : p % W < W - 1
    · rw [if_pos c]
      unfold rwB
      rw [(f5 c).1, (f5 c).2]
      rcases abV_c (q % W - p % W) with w | w <;> rcases abV_c (q % W - (p % W + 1)) with w2 | w2 <;> omega
    · rw [if_neg c] at hs
      exact absurd rfl hs
  · rw [besV_2] at hs ⊢
    by_cases c : p / W < H - 1
    · rw [if_pos c]
      unfold rwB
      rw [f3, f4]
      rcases abV_c (q / W - p / W) with w | w <;> rcases abV_c (q / W - (p / W + 1)) with w2 | w2 <;> omega
    · rw [if_neg c] at hs
      exact absurd rfl hs
  · rw [besV_3] at hs ⊢
    by_cases c : 0 < p % W
    · rw [if_pos c]
      unfold rwB
      rw [(f6 c).1, (f6 c).2]
      rcases abV_c (q % W - p % W) with w | w <;> rcases abV_c (q % W - (p % W - 1)) with w2 | w2 <;> omega
    · rw [if_neg c] at hs
      exact absurd rfl hs
/-- and there is one that does -/
theorem rw_t {W H p q : Int} (hW : 2 ≤ W ∧ W ≤ 8) (hp : 0 ≤ p ∧ p < W * H) (hq : 0 ≤ q ∧ q < W * H) (h1 : 1 ≤ rwB W p q) : ∃ s : Int, (0 ≤ s ∧ s < 4) ∧ besV W H p s ≠ -1 ∧ rwB W (besV W H p s) q + 1 ≤ rwB W p q := by
  obtain ⟨⟨a1, a2, a3, a4⟩, ⟨f1, f2⟩, ⟨f3, f4⟩, f5, f6⟩ := stF hW hp
  obtain ⟨⟨b1, b2, b3, b4⟩, -⟩ := stF hW hq
  by_cases k0 : q / W < p / W
  · have c : 0 < p / W := by omega
    refine ⟨0, ⟨by decide, by decide⟩, ?_, ?_⟩
    · rw [besV_0, if_pos c]
      intro w
      rw [w] at f2
      have e : (-1 : Int) / W = p / W - 1 := by rw [← f1, w]
      have := Int.ediv_neg_of_neg_of_pos (show (-1 : Int) < 0 by decide) (show 0 < W by omega)
      omega
    · rw [besV_0, if_pos c]
      unfold rwB
      rw [f1, f2]
      rcases abV_c (q / W - p / W) with w | w <;> rcases abV_c (q / W - (p / W - 1)) with w2 | w2 <;> omega
  by_cases k2 : p / W < q / W
  · have c : p / W < H - 1 := by omega
    refine ⟨2, ⟨by decide, by decide⟩, ?_, ?_⟩
    · rw [besV_2, if_pos c]
      omega
    · rw [besV_2, if_pos c]
      unfold rwB
      rw [f3, f4]
      rcases abV_c (q / W - p / W) with w | w <;> rcases abV_c (q / W - (p / W + 1)) with w2 | w2 <;> omega
  by_cases k1 : p % W < q % W
  · have c : p % W < W - 1 := by omega
    refine ⟨1, ⟨by decide, by decide⟩, ?_, ?_⟩
    · rw [besV_1, if_pos c]
      omega
    · rw [besV_1, if_pos c]
      unfold rwB
      rw [(f5 c).1, (f5 c).2]
      rcases abV_c (q % W - p % W) with w | w <;> rcases abV_c (q % W - (p % W + 1)) with w2 | w2 <;> omega
  by_cases k3 : q % W < p % W
  · have c : 0 < p % W := by omega
    refine ⟨3, ⟨by decide, by decide⟩, ?_, ?_⟩
    · rw [besV_3, if_pos c]
      intro w
      have e := (f6 c).2
      rw [w] at e
      have := Int.emod_nonneg p (show W ≠ 0 by omega)
      have e2 := (f6 c).1
      rw [w] at e2
      have := Int.ediv_neg_of_neg_of_pos (show (-1 : Int) < 0 by decide) (show 0 < W by omega)
      omega
    · rw [besV_3, if_pos c]
      unfold rwB
      rw [(f6 c).1, (f6 c).2]
      rcases abV_c (q % W - p % W) with w | w <;> rcases abV_c (q % W - (p % W - 1)) with w2 | w2 <;> omega
  · exfalso
    unfold rwB at h1
    rcases abV_c (q / W - p / W) with w | w <;> rcases abV_c (q % W - p % W) with w2 | w2 <;> omega
end
section
/-! bits of a long -/
theorem lb_s : ∀ c : Fin 64, ((Int32.ofInt (c.val : Int)).toInt64 &&& 63).toBitVec = BitVec.ofNat 64 c.val := by decide +kernel
theorem lb_m : ∀ c : Fin 64, (BitVec.ofNat 64 c.val).smod 64 = BitVec.ofNat 64 c.val := by decide +kernel
theorem lb_1 (z : Int64) : (z &&& 1).toInt = 1 ↔ z.toBitVec.getLsbD 0 = true := by
  have e : (z &&& 1).toBitVec = z.toBitVec &&& 1#64 := rfl
  constructor
  · intro h
    have h2 : (z &&& 1).toBitVec = 1#64 := by
      have : (z &&& 1) = 1 := Int64.toInt_inj.mp h
      rw [this]
      rfl
    rw [e] at h2
    have := congrArg (fun b => BitVec.getLsbD b 0) h2
    simpa using this
  · intro h
    have h2 : z.toBitVec &&& 1#64 = 1#64 := by
      apply BitVec.eq_of_getLsbD_eq
      intro i hi
      by_cases q : i = 0
      · subst q
        simp [h]
      · simp [q]
    have h3 : (z &&& 1) = 1 := Int64.toBitVec_inj.mp (e.trans h2)
    rw [h3]
    rfl
def lbt (G : Int) (c : Nat) : Bool := (Int64.ofInt G).toBitVec.getLsbD c
theorem lb_t {G : Int} {c : Nat} (hc : c < 64) : yland (ylshr G (c : Int)) 1 = 1 ↔ lbt G c = true := by
  unfold yland ylshr lbt
  rw [Int64.ofInt_toInt, show Int64.ofInt 1 = 1 from rfl, lb_1, Int64.toBitVec_shiftRight, lb_s ⟨c, hc⟩, lb_m ⟨c, hc⟩]
  simp only
  rw [BitVec.sshiftRight_eq', BitVec.getLsbD_sshiftRight]
  have c2 : c % 18446744073709551616 = c := Nat.mod_eq_of_lt (by omega)
  simp [hc, c2]
theorem lb_0 : ∀ c : Fin 64, lbt 0 c.val = false := by decide +kernel
theorem lb_k : ∀ k c : Fin 64, lbt (ylshl 1 (k.val : Int)) c.val = decide (c.val = k.val) := by decide +kernel
theorem lb_o {G H : Int} {c : Nat} : lbt (ylor G H) c = (lbt G c || lbt H c) := by
  unfold lbt ylor
  rw [Int64.ofInt_toInt, Int64.toBitVec_or, BitVec.getLsbD_or]
theorem lb_e {G : Int} {k c : Nat} (hk : k < 64) (hc : c < 64) : lbt (ylor G (ylshl 1 (k : Int))) c = (lbt G c || decide (c = k)) := by
  rw [lb_o]
  have := lb_k ⟨k, hk⟩ ⟨c, hc⟩
  simp only at this
  rw [this]
end
section
/-! goals: cells from which the claim would be lawful -/
def glV (t : Nat → Int) (a : Nat) (p : Int) (c : Nat) : Bool := wit t a (c : Int) (t (32 + 3 * a)) && nr t a (c : Int) p
def goI (t : Nat → Int) (a : Nat) (p : Int) (k : Nat) (h h2 : yH) : Prop := (∀ x j, ¬ (x = 170 ∧ j = 6) → h2 x j = h x j) ∧ ∀ c, c < 64 → lbt (h2 170 6) c = (decide (c < k) && glV t a p c)
theorem goI_n {t : Nat → Int} {a k : Nat} {p : Int} {h hh h2 : yH} (I : goI t a p k h hh) (fr : ∀ x j, ¬ (x = 170 ∧ j = 6) → h2 x j = hh x j) (e : ∀ c, c < 64 → lbt (h2 170 6) c = (lbt (hh 170 6) c || (decide (c = k) && glV t a p k))) : goI t a p (k + 1) h h2 := by
  refine ⟨fun x j w => (fr x j w).trans (I.1 x j w), fun c hc => ?_⟩
  rw [e c hc, I.2 c hc]
  by_cases q : c = k
  · subst q
    rw [decide_eq_false (show ¬ (c < c) by omega), decide_eq_true (show c = c from rfl), decide_eq_true (show c < c + 1 by omega), Bool.false_and, Bool.false_or]
  · rw [decide_eq_false q, Bool.false_and, Bool.or_false]
    by_cases w : c < k
    · rw [decide_eq_true w, decide_eq_true (show c < k + 1 by omega)]
    · rw [decide_eq_false w, decide_eq_false (show ¬ (c < k + 1) by omega)]
theorem goal_l {b a : Nat} {p : Int} {t : Nat → Int} {h : yH} (hb : b + 8 ≤ 170) (hW : tW0 t) (ha : (a : Int) < t 6) (hS : cS b t h) (hp : cSp b h) (hc : cPc h) (hpb : 0 ≤ p ∧ p ≤ 63) (h1 : ∀ c : Nat, (c : Int) < t 0 * t 1 → h 172 c = wvN t a (-1) (c : Int)) : ∀ (mm k n : Nat) (hh : yH), (mm : Int) + k = t 0 * t 1 → mm < n → goI t a p k h hh →
    ∃ h2, xl_X0_findGoals n 8 [170, (b : Int), (a : Int), p, (k : Int)] hh = some (0, h2) ∧ goI t a p (t 0 * t 1).toNat h h2 := by
  have Mb := M_b hW
  have d := hW.wd
  intro mm
  induction mm with
  | zero =>
    intro k n hh e1 e2 I
    obtain ⟨n, rfl⟩ : ∃ n', n = n' + 1 := ⟨n - 1, by omega⟩
    have S1 : cS b t hh := hS.fr (fun x j w1 w2 => I.1 x j (by omega))
    refine ⟨hh, ?_, ?_⟩
    · rw [e_X0_findGoals_8, cells_e S1 hW, xb_some, if_neg (by omega)]
    · rw [show (t 0 * t 1).toNat = k by omega]; exact I
  | succ mm ih =>
    intro k n hh e1 e2 I
    obtain ⟨n, rfl⟩ : ∃ n', n = n' + 1 := ⟨n - 1, by omega⟩
    have S1 : cS b t hh := hS.fr (fun x j w1 w2 => I.1 x j (by omega))
    have p1 : cSp b hh := hp.fr (fun j _ => I.1 b j (by omega))
    have lw1 := lawC_e (n := n) (w := 1) S1 p1 hW ha (by decide)
    have lw2 := lawC_e (n := n) (w := 2) S1 p1 hW ha (by decide)
    rw [show ((1 : Nat) : Int) = 1 from rfl] at lw1
    rw [show ((2 : Nat) : Int) = 2 from rfl] at lw2
    have ew : wvN t a (-1) (k : Int) = bcn (hst t (k : Int) (t (32 + 3 * a)) a (t 6).toNat) := congrArg bcn (if_pos rfl)
    have k172 : hh 172 k = bcn (hst t (k : Int) (t (32 + 3 * a)) a (t 6).toNat) := by rw [I.1 172 k (by omega), h1 k (by omega), ew]
    obtain ⟨a0, a1, a2, a3, -⟩ := id S1
    have co : f_X6_cost n [(b : Int), (k : Int), p] hh = some (cst (t 0) (t 2) (t 3) (k : Int) p, hh) := cost_e a0 a2 a3 d.1 d.2.2.2.1 (by omega) hpb
    have go0 : glV t a p k = false → ∃ h2, xl_X0_findGoals n 8 [170, (b : Int), (a : Int), p, (k : Int) + 1] hh = some (0, h2) ∧ goI t a p (t 0 * t 1).toNat h h2 := fun eg => by
      obtain ⟨h2, g1, g2⟩ := ih (k + 1) n hh (by omega) (by omega) (goI_n I (fun _ _ _ => rfl) (fun c hc => by rw [eg, Bool.and_false, Bool.or_false]))
      exact ⟨h2, by rw [show (k : Int) + 1 = ((k + 1 : Nat) : Int) by omega]; exact g1, g2⟩
    by_cases c : bcn (hst t (k : Int) (t (32 + 3 * a)) a (t 6).toNat) < lawV t a 1
    · have w0 : wit t a (k : Int) (t (32 + 3 * a)) = false := by
        cases e : wit t a (k : Int) (t (32 + 3 * a)) with
        | false => rfl
        | true => have := wit_iff.mp e; omega
      obtain ⟨h2, g1, g2⟩ := go0 (by unfold glV; rw [w0, Bool.false_and])
      refine ⟨h2, ?_, g2⟩
      rw [e_X0_findGoals_8, cells_e S1 hW, xb_some, if_pos (by omega), xg_pos (by rw [I.1 170 4 (by omega)]; exact hc.2.1), xg_pos (by omega), lw1, xb_some, Int.toNat_natCast k, k172, if_pos c, e_X0_findGoals_38, if_pos rfl, xg_pos (by omega)]
      exact g1
    · have w1 : wit t a (k : Int) (t (32 + 3 * a)) = true := wit_iff.mpr (by omega)
      have C : ∀ r : yO, (if lawV t a 2 < cst (t 0) (t 2) (t 3) (k : Int) p then (xl_X0_findGoals n 8 [170, (b : Int), (a : Int), p, (k : Int) + 1] hh) else (xl_X0_findGoals n 8 [170, (b : Int), (a : Int), p, (k : Int) + 1] (zup hh 170 6 (ylor (hh 170 6) (ylshl 1 (k : Int)))))) = r → xl_X0_findGoals (n + 1) 8 [170, (b : Int), (a : Int), p, (k : Int)] hh = r := by
        intro r er
        rw [e_X0_findGoals_8, cells_e S1 hW, xb_some, if_pos (by omega), xg_pos (by rw [I.1 170 4 (by omega)]; exact hc.2.1), xg_pos (by omega), lw1, xb_some, Int.toNat_natCast k, k172, if_neg c, e_X0_findGoals_38, if_neg (by decide), co, xb_some, lw2, xb_some]
        by_cases z : lawV t a 2 < cst (t 0) (t 2) (t 3) (k : Int) p
        · rw [if_pos z] at er ⊢
          rw [xg_pos (by omega)]
          exact er
        · rw [if_neg z] at er ⊢
          rw [xg_pos (by omega)]
          exact er
      by_cases z : lawV t a 2 < cst (t 0) (t 2) (t 3) (k : Int) p
      · have n0 : nr t a (k : Int) p = false := by
          cases e : nr t a (k : Int) p with
          | false => rfl
          | true => have := nr_iff.mp e; omega
        obtain ⟨h2, g1, g2⟩ := go0 (by unfold glV; rw [n0, Bool.and_false])
        refine ⟨h2, C _ ?_, g2⟩
        rw [if_pos z]
        exact g1
      · have n1 : nr t a (k : Int) p = true := nr_iff.mpr (by omega)
        have eg : glV t a p k = true := by unfold glV; rw [w1, n1]; rfl
        obtain ⟨h2, g1, g2⟩ := ih (k + 1) n (zup hh 170 6 (ylor (hh 170 6) (ylshl 1 (k : Int)))) (by omega) (by omega) (goI_n I (fun x j w => zup_ne w) (fun c hc => by rw [zup_at, lb_e (show k < 64 by omega) hc, eg, Bool.and_true]))
        refine ⟨h2, C _ ?_, g2⟩
        rw [if_neg z, show (k : Int) + 1 = ((k + 1 : Nat) : Int) by omega]
        exact g1
theorem goal_e {n b a : Nat} {p : Int} {t : Nat → Int} {h : yH} (hn : 70 ≤ n) (hb : b + 8 ≤ 170) (hW : tW0 t) (ha : (a : Int) < t 6) (hS : cS b t h) (hp : cSp b h) (hc : cPc h) (hpb : 0 ≤ p ∧ p ≤ 63) (h1 : ∀ c : Nat, (c : Int) < t 0 * t 1 → h 172 c = wvN t a (-1) (c : Int)) : ∃ h2, f_X0_findGoals n [170, (b : Int), (a : Int), p] h = some (0, h2) ∧ (∀ x j, ¬ (x = 170 ∧ j = 6) → h2 x j = h x j) ∧ ∀ c, c < 64 → lbt (h2 170 6) c = (decide (c < (t 0 * t 1).toNat) && glV t a p c) := by
  have Mb := M_b hW
  have u : ∀ x j, ¬ (x = 170 ∧ j = 6) → (zup h 170 6 0) x j = h x j := fun x j w => zup_ne w
  obtain ⟨h2, g1, g2, g3⟩ := goal_l (h := zup h 170 6 0) (p := p) hb hW ha (hS.fr (fun x j w1 w2 => u x j (by omega))) (hp.fr (fun j _ => u b j (by omega))) (hc.fr (fun j w1 w2 => u 170 j (by omega))) hpb (fun c q => by rw [u 172 c (by omega)]; exact h1 c q) (t 0 * t 1).toNat 0 n (zup h 170 6 0) (by omega) (by omega) ⟨fun _ _ _ => rfl, fun c hc => by
    rw [zup_at, decide_eq_false (show ¬ (c < 0) by omega), Bool.false_and]
    exact lb_0 ⟨c, hc⟩⟩
  refine ⟨h2, ?_, fun x j w => (g2 x j w).trans (u x j w), g3⟩
  rw [e_X0_findGoals]
  exact g1
end
section
/-! a goal within so many rows -/
def wiA (W : Int) (G : Nat → Bool) (fr rows : Int) : Nat → Nat → Bool
  | 0, _ => false
  | m + 1, k => (G k && decide (rwB W fr (k : Int) ≤ rows)) || wiA W G fr rows m (k + 1)
theorem wiA_c {W : Int} {G : Nat → Bool} {fr rows : Int} : ∀ m k, wiA W G fr rows m k = true ↔ ∃ c, (k ≤ c ∧ c < k + m) ∧ G c = true ∧ rwB W fr (c : Int) ≤ rows := by
  intro m
  induction m with
  | zero =>
    intro k
    refine ⟨fun w => (by cases w), fun ⟨c, w, _⟩ => (by omega)⟩
  | succ m ih =>
    intro k
    show ((G k && decide (rwB W fr (k : Int) ≤ rows)) || wiA W G fr rows m (k + 1)) = true ↔ _
    rw [Bool.or_eq_true, Bool.and_eq_true, decide_eq_true_iff, ih (k + 1)]
    constructor
    · rintro (⟨w1, w2⟩ | ⟨c, w1, w2⟩)
      · exact ⟨k, by omega, w1, w2⟩
      · exact ⟨c, by omega, w2⟩
    · rintro ⟨c, w1, w2⟩
      by_cases q : c = k
      · subst q
        exact Or.inl w2
      · exact Or.inr ⟨c, by omega, w2⟩
theorem wi_l {b : Nat} {fr rows : Int} {t : Nat → Int} {h : yH} {G : Nat → Bool} (hW : tW0 t) (hS : cS b t h) (hfr : 0 ≤ fr ∧ fr ≤ 63) (hG : ∀ c : Nat, (c : Int) < t 0 * t 1 → lbt (h 170 6) c = G c) : ∀ (m k n : Nat), (m : Int) + k = t 0 * t 1 → m < n → xl_X0_isWithin n 3 [170, (b : Int), fr, rows, (k : Int)] h = some (if wiA (t 0) G fr rows m k = true then 1 else 0, h) := by
  have Mb := M_b hW
  have d := hW.wd
  intro m
  induction m with
  | zero =>
    intro k n e1 e2
    obtain ⟨n, rfl⟩ : ∃ n', n = n' + 1 := ⟨n - 1, by omega⟩
    rw [e_X0_isWithin_3, cells_e hS hW, xb_some, if_neg (by omega)]
    rfl
  | succ m ih =>
    intro k n e1 e2
    obtain ⟨n, rfl⟩ : ∃ n', n = n' + 1 := ⟨n - 1, by omega⟩
    have nx := ih (k + 1) n (by omega) (by omega)
    have lt := lb_t (G := h 170 6) (c := k) (by omega)
    rw [hG k (by omega)] at lt
    have st : wiA (t 0) G fr rows (m + 1) k = ((G k && decide (rwB (t 0) fr (k : Int) ≤ rows)) || wiA (t 0) G fr rows m (k + 1)) := rfl
    rw [e_X0_isWithin_3, cells_e hS hW, xb_some, if_pos (by omega), st]
    by_cases c : G k = true
    · rw [if_pos (lt.mpr c), rwC_e hS.1 d.1 hfr (by omega), xb_some, c, Bool.true_and]
      by_cases z : rows < rwB (t 0) fr (k : Int)
      · rw [if_pos z, xg_pos (by omega), show (k : Int) + 1 = ((k + 1 : Nat) : Int) by omega, nx, decide_eq_false (show ¬ (rwB (t 0) fr (k : Int) ≤ rows) by omega), Bool.false_or]
      · rw [if_neg z, decide_eq_true (show rwB (t 0) fr (k : Int) ≤ rows by omega), Bool.true_or, if_pos rfl]
    · have c2 : G k = false := by
        cases e : G k with
        | false => rfl
        | true => exact absurd e c
      rw [if_neg (fun w => c (lt.mp w)), xg_pos (by omega), show (k : Int) + 1 = ((k + 1 : Nat) : Int) by omega, nx, c2, Bool.false_and, Bool.false_or]
theorem wi_e {n b : Nat} {fr rows : Int} {t : Nat → Int} {h : yH} {G : Nat → Bool} (hn : 70 ≤ n) (hW : tW0 t) (hS : cS b t h) (hfr : 0 ≤ fr ∧ fr ≤ 63) (hG : ∀ c : Nat, (c : Int) < t 0 * t 1 → lbt (h 170 6) c = G c) : f_X0_isWithin n [170, (b : Int), fr, rows] h = some (if wiA (t 0) G fr rows (t 0 * t 1).toNat 0 = true then 1 else 0, h) := by
  have Mb := M_b hW
  have l := wi_l (rows := rows) hW hS hfr hG (t 0 * t 1).toNat 0 n (by omega) (by omega)
  rw [e_X0_isWithin]
  exact l
end
section
/-! could a boat claim from a cell, shoals having drifted -/
def tsm (s : Nat) (t u : Nat → Int) (g : yH) : Prop := hv s t u g ∧ g 35 34 = 0 ∧ ∀ i, i < 6 → g 16 i = -1
theorem tst.m {s : Nat} {t u : Nat → Int} {g : yH} (T : tst s t u g) : tsm s t u g := ⟨T.1, T.2.1, fun i hi => (T.2.2.2 i hi).2.2.2.2.2⟩
theorem tsm.up {s b : Nat} {x : Int} {t u u2 : Nat → Int} {g : yH} (T : tsm s t u g) (H2 : hv s t u2 (zup g 10 b x)) : tsm s t u2 (zup g 10 b x) :=
  ⟨H2, by rw [zup_ne (by omega)]; exact T.2.1, fun i hi => by rw [zup_ne (by omega)]; exact T.2.2 i hi⟩
/-- what a search writes -/
def frS (g0 g : yH) : Prop := ∀ a j, a ≠ 13 → a ≠ 26 → a ≠ 27 → a ≠ 28 → g a j = g0 a j
theorem frS.r {g : yH} : frS g g := fun _ _ _ _ _ _ => rfl
theorem frS.t {g0 g g2 : yH} (F : frS g0 g) (e : ∀ a j, a ≠ 13 → a ≠ 26 → a ≠ 27 → a ≠ 28 → g2 a j = g a j) : frS g0 g2 := fun a j w1 w2 w3 w4 => (e a j w1 w2 w3 w4).trans (F a j w1 w2 w3 w4)
theorem hv.frS {s : Nat} {t u : Nat → Int} {g g2 : yH} (H : hv s t u g) (e : frS g g2) : hv s t u g2 := by
  obtain ⟨k1, k2, k3, k4, k5, k6, k7, k8⟩ := H
  have e35 : ∀ j, g2 35 j = g 35 j := fun j => e _ _ (by omega) (by omega) (by omega) (by omega)
  exact ⟨k1.fr (fun a j w => e _ _ (by omega) (by omega) (by omega) (by omega)), k2, (e35 _).trans k3, (e35 _).trans k4, (e35 _).trans k5, (e35 _).trans k6, (e35 _).trans k7, fun i hi => ⟨(e _ _ (by omega) (by omega) (by omega) (by omega)).trans (k8 i hi).1, (e _ _ (by omega) (by omega) (by omega) (by omega)).trans (k8 i hi).2⟩⟩
theorem tsm.frS {s : Nat} {t u : Nat → Int} {g g2 : yH} (T : tsm s t u g) (e : frS g g2) : tsm s t u g2 :=
  ⟨T.1.frS e, (e _ _ (by omega) (by omega) (by omega) (by omega)).trans T.2.1, fun i hi => (e _ _ (by omega) (by omega) (by omega) (by omega)).trans (T.2.2 i hi)⟩
theorem lackM_e {n s b k : Nat} {t u : Nat → Int} {g : yH} {heard p : Int} (hn : 17 ≤ n) (T : tsm s t u g) (hWt : tW0 t) (hW : tW0 u) (hb : (b : Int) < u 6) (hk : k < 6) (hh : 0 ≤ heard ∧ heard ≤ 63) (hp : g 13 k = p) (hpb : 0 ≤ p ∧ p ≤ 63) : f_X12_lackOf n [35, (b : Int), (k : Int), lawV t b 0, heard] g = some (yari 8 (yari 8 0 (if bcn heard < lawV t b 1 then 2 else 0)) (if lawV t b 2 < cst (u 0) (u 2) (u 3) (u (31 + 3 * b)) p then 4 else 0), g) := by
  have d := hW.wd
  have wb := hW.bt (b := b) (by omega)
  obtain ⟨H, h34, hs⟩ := T
  have P : ∀ {j : Nat} {kk : Int}, (j, kk) ∈ rQL → g 35 j = kk := fun hm => H.1.2.2.2.p hm
  have l0 := lawOf_e (n := n) (w := 0) H.1 hWt (show b < 6 by omega) (by decide)
  have l1 := lawOf_e (n := n) (w := 1) H.1 hWt (show b < 6 by omega) (by decide)
  have l2 := lawOf_e (n := n) (w := 2) H.1 hWt (show b < 6 by omega) (by decide)
  rw [show ((0 : Nat) : Int) = 0 from rfl] at l0
  rw [show ((1 : Nat) : Int) = 1 from rfl] at l1
  rw [show ((2 : Nat) : Int) = 2 from rfl] at l2
  rw [e_X12_lackOf, e_X12_holderNow, xg_pos (P (j := 41) (kk := 16) (by decide)), xg_pos (by omega), Int.toNat_natCast, hs k hk, h34, if_pos (by decide), xb_some, if_pos rfl, e_X12_lackOf_23, ones_e hn hh, xb_some, l1, xb_some]
  have fin : ∀ y : Int, xq_X12_lackOf_47 n [35, (b : Int), (k : Int), lawV t b 0, heard, -1, 0, y, 0] g = some (yari 8 (yari 8 0 y) (if lawV t b 2 < cst (u 0) (u 2) (u 3) (u (31 + 3 * b)) p then 4 else 0), g) := by
    intro y
    rw [e_X12_lackOf_47, xg_pos (P (j := 30) (kk := 10) (by decide)), xg_pos (by omega), xg_pos (P (j := 36) (kk := 13) (by decide)), xg_pos (by omega), Int.toNat_natCast, Int.toNat_natCast, (H.2.2.2.2.2.2.2 b hb).1, hp, costOf_e (by omega) H.2.2.1 H.2.2.2.2.1 H.2.2.2.2.2.1 d.1 d.2.2.1 d.2.2.2.1 wb.1 hpb, xb_some, l2, xb_some]
    by_cases c : lawV t b 2 < cst (u 0) (u 2) (u 3) (u (31 + 3 * b)) p
    · rw [if_pos c, if_pos c, e_X12_lackOf_82, l0, xb_some, if_neg (Int.lt_irrefl _)]
    · rw [if_neg c, if_neg c, e_X12_lackOf_82, l0, xb_some, if_neg (Int.lt_irrefl _)]
  by_cases c : bcn heard < lawV t b 1
  · rw [if_pos c, if_pos c, fin]
  · rw [if_neg c, if_neg c, fin]
theorem couldM_e {n s b k : Nat} {x p : Int} {t u : Nat → Int} {g : yH} (hn : 17 ≤ n) (T : tsm s t u g) (hWt : tW0 t) (hW : tW0 u) (hb : (b : Int) < u 6) (hk : k < 6) (hx : 0 ≤ x ∧ x ≤ 63) (hp : g 13 k = p) (hpb : 0 ≤ p ∧ p ≤ 63) : f_X12_couldFrom n [35, (b : Int), x, (k : Int)] g = some (if cld t u b x p = true then 1 else 0, g) := by
  have d := hW.wd
  have wb := hW.bt (b := b) (by omega)
  have HX := T.1.cell (b := b) (x := x) (by omega)
  have TX := T.up HX
  have WX : tW0 (tU u (31 + 3 * b) x) := tU_W hW ⟨b, by omega, Or.inl ⟨rfl, hx⟩⟩
  have P : ∀ {j : Nat} {kk : Int}, (j, kk) ∈ rQL → g 35 j = kk := fun hm => T.1.1.2.2.2.p hm
  have PX : ∀ {j : Nat} {kk : Int}, (j, kk) ∈ rQL → (zup g 10 b x) 35 j = kk := fun hm => HX.1.2.2.2.p hm
  have hbX : (b : Int) < tU u (31 + 3 * b) x 6 := by rw [tU_ne (by omega)]; exact hb
  have l0 := lawOf_e (n := n) (w := 0) HX.1 hWt (show b < 6 by omega) (by decide)
  rw [show ((0 : Nat) : Int) = 0 from rfl] at l0
  have hh := hrs_b (a := b) WX
  have gb : g 10 b = u (31 + 3 * b) := (T.1.2.2.2.2.2.2.2 b hb).1
  have eh : hrs (tU u (31 + 3 * b) x) b = hst u x (u (32 + 3 * b)) b (u 6).toNat := by
    unfold hrs
    rw [tU_at, tU_ne (show 32 + 3 * b ≠ 31 + 3 * b by omega), tU_ne (show 6 ≠ 31 + 3 * b by omega)]
    exact hst_c (tU_ne (by omega)) (tU_ne (by omega)) (tU_ne (by omega)) (tU_ne (by omega)) (fun i _ q => tU_ne (by omega)) _ (by omega)
  have lk := lackM_e hn TX hWt WX hbX hk hh (show (zup g 10 b x) 13 k = p by rw [zup_ne (by omega)]; exact hp) hpb
  rw [eh, tU_at, tU_ne (show 0 ≠ 31 + 3 * b by omega), tU_ne (show 2 ≠ 31 + 3 * b by omega), tU_ne (show 3 ≠ 31 + 3 * b by omega)] at lk
  have hO := hearersOf_e (n := n) (by omega) HX WX hbX
  rw [eh] at hO
  rw [e_X12_couldFrom, xg_pos (P (j := 30) (kk := 10) (by decide)), xg_pos (by omega), xg_pos (P (j := 30) (kk := 10) (by decide)), xg_pos (by omega), xg_pos hx, Int.toNat_natCast, l0, xb_some, hO, xb_some, lk, xb_some, gb]
  unfold cld
  have fin : (zup (zup g 10 b x) 10 b (u (31 + 3 * b))) = g := by rw [← gb]; exact zup_id
  by_cases c1 : bcn (hst u x (u (32 + 3 * b)) b (u 6).toNat) < lawV t b 1
  · rw [if_pos c1]
    have e : (decide (cst (u 0) (u 2) (u 3) x p ≤ lawV t b 2) && decide (lawV t b 1 ≤ bcn (hst u x (u (32 + 3 * b)) b (u 6).toNat))) = false := by
      rw [decide_eq_false (show ¬ (lawV t b 1 ≤ bcn (hst u x (u (32 + 3 * b)) b (u 6).toNat)) by omega), Bool.and_false]
    rw [e]
    by_cases c2 : lawV t b 2 < cst (u 0) (u 2) (u 3) x p
    · rw [if_pos c2, if_neg (by decide +kernel), xg_pos (PX (j := 30) (kk := 10) (by decide)), xg_pos (by omega), xg_pos wb.1, fin, if_neg (by decide)]
    · rw [if_neg c2, if_neg (by decide +kernel), xg_pos (PX (j := 30) (kk := 10) (by decide)), xg_pos (by omega), xg_pos wb.1, fin, if_neg (by decide)]
  · rw [if_neg c1]
    by_cases c2 : lawV t b 2 < cst (u 0) (u 2) (u 3) x p
    · have e : (decide (cst (u 0) (u 2) (u 3) x p ≤ lawV t b 2) && decide (lawV t b 1 ≤ bcn (hst u x (u (32 + 3 * b)) b (u 6).toNat))) = false := by
        rw [decide_eq_false (show ¬ (cst (u 0) (u 2) (u 3) x p ≤ lawV t b 2) by omega), Bool.false_and]
      rw [if_pos c2, if_neg (by decide +kernel), xg_pos (PX (j := 30) (kk := 10) (by decide)), xg_pos (by omega), xg_pos wb.1, fin, e, if_neg (by decide)]
    · have e : (decide (cst (u 0) (u 2) (u 3) x p ≤ lawV t b 2) && decide (lawV t b 1 ≤ bcn (hst u x (u (32 + 3 * b)) b (u 6).toNat))) = true := by
        rw [decide_eq_true (show cst (u 0) (u 2) (u 3) x p ≤ lawV t b 2 by omega), decide_eq_true (show lawV t b 1 ≤ bcn (hst u x (u (32 + 3 * b)) b (u 6).toNat) by omega)]
        rfl
      rw [if_neg c2, if_pos (by decide +kernel), xg_pos (PX (j := 30) (kk := 10) (by decide)), xg_pos (by omega), xg_pos wb.1, fin, e, if_pos rfl]
theorem cld_g {t : Nat → Int} {a c : Nat} {p : Int} : cld t t a (c : Int) p = glV t a p c := Bool.and_comm _ _
end
section
/-! rows: deeds that lead from cell to cell -/
theorem rw_y {W p q : Int} : rwB W p q = rwB W q p := by
  unfold rwB
  rcases abV_c (q / W - p / W) with w | w <;> rcases abV_c (q % W - p % W) with w2 | w2 <;> rcases abV_c (p / W - q / W) with w3 | w3 <;> rcases abV_c (p % W - q % W) with w4 | w4 <;> omega
theorem rw_0 {W p : Int} : rwB W p p = 0 := by
  unfold rwB
  rcases abV_c (p / W - p / W) with w | w <;> rcases abV_c (p % W - p % W) with w2 | w2 <;> omega
theorem rw_z {W p q : Int} (h : rwB W p q ≤ 0) : p = q := by
  unfold rwB at h
  have e1 : q / W = p / W := by
    rcases abV_c (q / W - p / W) with w | w <;> rcases abV_c (q % W - p % W) with w2 | w2 <;> omega
  have e2 : q % W = p % W := by
    rcases abV_c (q / W - p / W) with w | w <;> rcases abV_c (q % W - p % W) with w2 | w2 <;> omega
  have a1 : W * (p / W) + p % W = p := by first | exact Int.mul_ediv_add_emod p W | exact Int.ediv_add_emod p W
  have a2 : W * (q / W) + q % W = q := by first | exact Int.mul_ediv_add_emod q W | exact Int.ediv_add_emod q W
  rw [e1, e2] at a2
  exact a1.symm.trans a2
/-- a row has a row back -/
theorem bes_o {W H p s : Int} (hW : 2 ≤ W ∧ W ≤ 8) (hp : 0 ≤ p ∧ p < W * H) (hs : besV W H p s ≠ -1) : ∃ s2 : Int, (0 ≤ s2 ∧ s2 < 4) ∧ besV W H (besV W H p s) s2 = p := by
  obtain ⟨⟨a1, a2, a3, a4⟩, ⟨f1, f2⟩, ⟨f3, f4⟩, f5, f6⟩ := stF hW hp
  by_cases c0 : s = 0
  · subst c0
    rw [besV_0] at hs ⊢
    by_cases c : 0 < p / W
    · rw [if_pos c]
      refine ⟨2, by decide, ?_⟩
      rw [besV_2, f1, if_pos (by omega)]
      omega
    · rw [if_neg c] at hs
      exact absurd rfl hs
  by_cases c1 : s = 1
  · subst c1
    rw [besV_1] at hs ⊢
    by_cases c : p % W < W - 1
    · rw [if_pos c]
      refine ⟨3, by decide, ?_⟩
      rw [besV_3, (f5 c).2, if_pos (by omega)]
      omega
    · rw [if_neg c] at hs
      exact absurd rfl hs
  by_cases c2 : s = 2
  · subst c2
    rw [besV_2] at hs ⊢
    by_cases c : p / W < H - 1
    · rw [if_pos c]
      refine ⟨0, by decide, ?_⟩
      rw [besV_0, f3, if_pos (by omega)]
      omega
    · rw [if_neg c] at hs
      exact absurd rfl hs
  by_cases c3 : s = 3
  · subst c3
    rw [besV_3] at hs ⊢
    by_cases c : 0 < p % W
    · rw [if_pos c]
      refine ⟨1, by decide, ?_⟩
      rw [besV_1, (f6 c).2, if_pos (by omega)]
      omega
    · rw [if_neg c] at hs
      exact absurd rfl hs
  · exact absurd (besV_n (by omega)) hs
/-- where a deed leads: four rows, or none -/
def mvV (W H p d : Int) : Int := if d = 4 then p else besV W H p d
theorem mv_b {W H p d : Int} (hW : 2 ≤ W ∧ W ≤ 8) (hH : 2 ≤ H ∧ H ≤ 8) (hp : 0 ≤ p ∧ p < W * H) : mvV W H p d = -1 ∨ (0 ≤ mvV W H p d ∧ mvV W H p d < W * H) := by
  unfold mvV
  by_cases c : d = 4
  · rw [if_pos c]; exact Or.inr hp
  · rw [if_neg c]; exact besV_b hW hH hp
theorem mv_e {n : Nat} {W H p d : Int} {g : yH} (h24 : g 35 24 = W) (h25 : g 35 25 = H) (hW : 2 ≤ W ∧ W ≤ 8) (hH : 2 ≤ H ∧ H ≤ 8) (hp : 0 ≤ p ∧ p < W * H) (hd : 0 ≤ d ∧ d ≤ 4) : f_X12_moved n [35, p, d] g = some (mvV W H p d, g) := by
  rw [e_X12_moved]
  unfold mvV
  by_cases c : d = 4
  · rw [if_pos c, if_pos c]
  · rw [if_neg c, if_neg c, besR_e h24 h25 hW hH hp (by omega), xb_some]
/-- a deed is one row at most -/
theorem mv_1 {W H p d q : Int} (hW : 2 ≤ W ∧ W ≤ 8) (hp : 0 ≤ p ∧ p < W * H) (hd : mvV W H p d ≠ -1) : rwB W p q ≤ rwB W (mvV W H p d) q + 1 := by
  unfold mvV at hd ⊢
  by_cases c : d = 4
  · rw [if_pos c]; omega
  · rw [if_neg c] at hd ⊢
    exact rw_s hW hp hd
theorem mv_2 {W H p d q : Int} (hW : 2 ≤ W ∧ W ≤ 8) (hH : 2 ≤ H ∧ H ≤ 8) (hp : 0 ≤ p ∧ p < W * H) (hd : mvV W H p d ≠ -1) : rwB W q (mvV W H p d) ≤ rwB W q p + 1 := by
  unfold mvV at hd ⊢
  by_cases c : d = 4
  · rw [if_pos c]; omega
  · rw [if_neg c] at hd ⊢
    obtain ⟨s2, w1, w2⟩ := bes_o hW hp hd
    have b := besV_b (s := d) hW hH hp
    have hp2 : 0 ≤ besV W H p d ∧ besV W H p d < W * H := by
      rcases b with b | b
      · exact absurd b hd
      · exact b
    have k := rw_s (q := q) (s := s2) hW hp2 (by rw [w2]; omega)
    rw [w2] at k
    rw [rw_y (p := q), rw_y (p := q)]
    exact k
/-- from afar there is a deed that comes nearer -/
theorem mv_3 {W H p q : Int} {m : Nat} (hW : 2 ≤ W ∧ W ≤ 8) (hp : 0 ≤ p ∧ p < W * H) (hq : 0 ≤ q ∧ q < W * H) (h : rwB W p q ≤ (m : Int) + 1) : ∃ d : Int, (0 ≤ d ∧ d ≤ 4) ∧ mvV W H p d ≠ -1 ∧ rwB W (mvV W H p d) q ≤ m := by
  by_cases c : 1 ≤ rwB W p q
  · obtain ⟨s, w1, w2, w3⟩ := rw_t hW hp hq c
    have e : mvV W H p s = besV W H p s := if_neg (by omega)
    exact ⟨s, by omega, by rw [e]; exact w2, by rw [e]; omega⟩
  · have e : mvV W H p 4 = p := if_pos rfl
    exact ⟨4, by omega, by rw [e]; omega, by rw [e]; omega⟩
/-- a cell that is reached is reached from a nearer one -/
theorem mv_4 {W H c q : Int} {m : Nat} (hW : 2 ≤ W ∧ W ≤ 8) (hH : 2 ≤ H ∧ H ≤ 8) (hc : 0 ≤ c ∧ c < W * H) (hq : 0 ≤ q ∧ q < W * H) (h : rwB W q c ≤ (m : Int) + 1) : ∃ p d : Int, (0 ≤ p ∧ p < W * H) ∧ (0 ≤ d ∧ d ≤ 4) ∧ mvV W H p d = c ∧ rwB W q p ≤ m := by
  by_cases k : 1 ≤ rwB W c q
  · obtain ⟨s, w1, w2, w3⟩ := rw_t hW hc hq k
    obtain ⟨s2, v1, v2⟩ := bes_o hW hc w2
    have b := besV_b (s := s) hW hH hc
    have e : mvV W H (besV W H c s) s2 = besV W H (besV W H c s) s2 := if_neg (by omega)
    refine ⟨besV W H c s, s2, ?_, by omega, by rw [e]; exact v2, ?_⟩
    · rcases b with b | b
      · exact absurd b w2
      · exact b
    · rw [rw_y (p := q)] at h ⊢
      omega
  · have e : mvV W H c 4 = c := if_pos rfl
    exact ⟨c, 4, hc, by omega, e, by rw [rw_y (p := q)]; omega⟩
end
section
/-! the fewest hours: the reference, forward -/
theorem fwd_l {s a k : Nat} {c T hr : Int} {t : Nat → Int} {g0 : yH} (hW : tW0 t) (T0 : tst s t t g0) (hc : 0 ≤ c ∧ c < t 0 * t 1) (hT : 0 ≤ T ∧ T < 30) : ∀ (mm d n : Nat) (g : yH), mm + d = 5 → mm < n → frS g0 g →
    ∃ n' g2, xl_X12_findSoon n 124 [35, (a : Int), (k : Int), hr, T, c, (d : Int)] g = xl_X12_findSoon n' 63 [35, (a : Int), (k : Int), hr, T, c + 1] g2 ∧ n = n' + mm + 1 ∧ (∀ i j, i ≠ 27 → g2 i j = g i j) ∧
      ∀ j : Nat, g2 27 j ≠ 0 ↔ (g 27 j ≠ 0 ∨ ∃ d2 : Int, ((d : Int) ≤ d2 ∧ d2 ≤ 4) ∧ mvV (t 0) (t 1) c d2 ≠ -1 ∧ (j : Int) = 64 * (T + 1) + mvV (t 0) (t 1) c d2) := by
  have Mb := M_b hW
  intro mm
  induction mm with
  | zero =>
    intro d n g e1 e2 F
    obtain ⟨n, rfl⟩ : ∃ n', n = n' + 1 := ⟨n - 1, by omega⟩
    refine ⟨n, g, ?_, by omega, fun _ _ _ => rfl, fun j => ⟨fun w => Or.inl w, fun w => ?_⟩⟩
    · rw [e_X12_findSoon_124, if_pos (by omega), xg_pos (by omega)]
    · rcases w with w | ⟨d2, w, -⟩
      · exact w
      · omega
  | succ mm ih =>
    intro d n g e1 e2 F
    obtain ⟨n, rfl⟩ : ∃ n', n = n' + 1 := ⟨n - 1, by omega⟩
    have h24 : g 35 24 = t 0 := (F _ _ (by omega) (by omega) (by omega) (by omega)).trans T0.1.2.2.1
    have h25 : g 35 25 = t 1 := (F _ _ (by omega) (by omega) (by omega) (by omega)).trans T0.1.2.2.2.1
    have h52 : g 35 52 = 27 := (F _ _ (by omega) (by omega) (by omega) (by omega)).trans (T0.1.1.2.2.2.p (j := 52) (k := 27) (by decide))
    have m := mv_e (n := n) (d := (d : Int)) h24 h25 hW.1 hW.2.1 hc (by omega)
    have b := mv_b (d := (d : Int)) hW.1 hW.2.1 hc
    rw [e_X12_findSoon_124, if_neg (by omega), if_pos (by omega), m, xb_some]
    by_cases q : mvV (t 0) (t 1) c (d : Int) = -1
    · obtain ⟨n', g2, f1, f2, f3, f4⟩ := ih (d + 1) n g (by omega) (by omega) F
      refine ⟨n', g2, ?_, by omega, f3, fun j => (f4 j).trans ⟨fun w => ?_, fun w => ?_⟩⟩
      · rw [if_pos q, xg_pos (by omega), show (d : Int) + 1 = ((d + 1 : Nat) : Int) by omega]
        exact f1
      · rcases w with w | ⟨d2, w1, w2⟩
        · exact Or.inl w
        · exact Or.inr ⟨d2, by omega, w2⟩
      · rcases w with w | ⟨d2, w1, w2, w3⟩
        · exact Or.inl w
        · by_cases z : d2 = (d : Int)
          · rw [z] at w2
            exact absurd q w2
          · exact Or.inr ⟨d2, by omega, w2, w3⟩
    · have b2 : 0 ≤ mvV (t 0) (t 1) c (d : Int) ∧ mvV (t 0) (t 1) c (d : Int) < t 0 * t 1 := by
        rcases b with b | b
        · exact absurd b q
        · exact b
      obtain ⟨z, ez⟩ : ∃ z, z = mvV (t 0) (t 1) c (d : Int) := ⟨_, rfl⟩
      rw [← ez] at b2 q ⊢
      obtain ⟨n', g2, f1, f2, f3, f4⟩ := ih (d + 1) n (zup g 27 ((64 * (T + 1)) + z).toNat 1) (by omega) (by omega) (F.t (fun i j _ _ w _ => zup_ne (by omega)))
      refine ⟨n', g2, ?_, by omega, fun i j w => (f3 i j w).trans (zup_ne (by omega)), fun j => (f4 j).trans ⟨fun w => ?_, fun w => ?_⟩⟩
      · rw [if_neg q, xg_pos h52, xg_pos (by omega), xg_pos (by omega), xg_pos (by omega), xg_pos (by omega), xg_pos (by omega), show (d : Int) + 1 = ((d + 1 : Nat) : Int) by omega]
        exact f1
      · rcases w with w | ⟨d2, w1, w2⟩
        · by_cases y : j = ((64 * (T + 1)) + z).toNat
          · exact Or.inr ⟨d, by omega, by rw [← ez]; exact q, by rw [← ez]; omega⟩
          · rw [zup_ne (by omega)] at w
            exact Or.inl w
        · exact Or.inr ⟨d2, by omega, w2⟩
      · rcases w with w | ⟨d2, w1, w2, w3⟩
        · left
          by_cases y : j = ((64 * (T + 1)) + z).toNat
          · rw [y, zup_at]; decide
          · rw [zup_ne (by omega)]; exact w
        · by_cases y : d2 = (d : Int)
          · left
            rw [y, ← ez] at w3
            rw [show j = ((64 * (T + 1)) + z).toNat by omega, zup_at]
            decide
          · exact Or.inr ⟨d2, by omega, w2, w3⟩
/-- the deeds from a cell, at any hour -/
theorem fwd_e {s a k n : Nat} {c T hr : Int} {t : Nat → Int} {g0 g : yH} (hW : tW0 t) (T0 : tst s t t g0) (hc : 0 ≤ c ∧ c < t 0 * t 1) (hT : 0 ≤ T ∧ T ≤ 30) (hn : 6 < n) (F : frS g0 g) :
    ∃ n' g2, xl_X12_findSoon n 124 [35, (a : Int), (k : Int), hr, T, c, 0] g = xl_X12_findSoon n' 63 [35, (a : Int), (k : Int), hr, T, c + 1] g2 ∧ n ≤ n' + 6 ∧ n' < n ∧ (∀ i j, i ≠ 27 → g2 i j = g i j) ∧
      ∀ j : Nat, g2 27 j ≠ 0 ↔ (g 27 j ≠ 0 ∨ (T < 30 ∧ ∃ d2 : Int, (0 ≤ d2 ∧ d2 ≤ 4) ∧ mvV (t 0) (t 1) c d2 ≠ -1 ∧ (j : Int) = 64 * (T + 1) + mvV (t 0) (t 1) c d2)) := by
  have Mb := M_b hW
  by_cases q : T < 30
  · obtain ⟨n', g2, f1, f2, f3, f4⟩ := fwd_l (a := a) (k := k) (hr := hr) hW T0 hc ⟨hT.1, q⟩ 5 0 n g (by omega) (by omega) F
    refine ⟨n', g2, f1, by omega, by omega, f3, fun j => (f4 j).trans ⟨fun w => ?_, fun w => ?_⟩⟩
    · rcases w with w | ⟨d2, w1, w2⟩
      · exact Or.inl w
      · exact Or.inr ⟨q, d2, by omega, w2⟩
    · rcases w with w | ⟨-, d2, w1, w2⟩
      · exact Or.inl w
      · exact Or.inr ⟨d2, by omega, w2⟩
  · obtain ⟨n, rfl⟩ : ∃ n', n = n' + 1 := ⟨n - 1, by omega⟩
    refine ⟨n, g, ?_, by omega, by omega, fun _ _ _ => rfl, fun j => ⟨fun w => Or.inl w, fun w => ?_⟩⟩
    · rw [e_X12_findSoon_124, if_neg (by decide), if_neg q, xg_pos (by omega)]
    · rcases w with w | ⟨w, -⟩
      · exact w
      · omega
/-- the cells of an hour -/
def rch (t : Nat → Int) (a : Nat) (T : Nat) (c : Int) : Prop := rwB (t 0) (t (31 + 3 * a)) c ≤ (T : Int)
theorem cel_l {s a k T : Nat} {t : Nat → Int} {g0 : yH} (hW : tW0 t) (T0 : tst s t t g0) (hh : wh0 t) (ha : (a : Int) < t 6) (hk : (k : Int) < t 5) (hT : T ≤ 30) : ∀ (mm c n : Nat) (hr : Int) (g : yH), (mm : Int) + c = t 0 * t 1 → 8 * mm + 30 ≤ n → frS g0 g → (∀ i : Nat, (i : Int) < t 5 → g 13 i = dps t i T) → (∀ q : Nat, (q : Int) < t 0 * t 1 → (g 27 (64 * T + q) ≠ 0 ↔ rch t a T q)) →
    ∃ n' g2, xl_X12_findSoon n 63 [35, (a : Int), (k : Int), hr, (T : Int), (c : Int)] g = xl_X12_findSoon n' 48 [35, (a : Int), (k : Int), (if wiA (t 0) (glV t a (dps t k T)) (t (31 + 3 * a)) (T : Int) mm c = true then (T : Int) else hr), ((T + 1 : Nat) : Int)] g2 ∧ n ≤ n' + 8 * mm + 1 ∧ frS g0 g2 ∧ (∀ i : Nat, (i : Int) < t 5 → g2 13 i = dps t i (T + 1)) ∧
      (∀ j : Nat, g2 27 j ≠ 0 ↔ (g 27 j ≠ 0 ∨ (T < 30 ∧ ∃ (c2 : Nat) (d2 : Int), (c ≤ c2 ∧ c2 < c + mm) ∧ rch t a T c2 ∧ (0 ≤ d2 ∧ d2 ≤ 4) ∧ mvV (t 0) (t 1) c2 d2 ≠ -1 ∧ (j : Int) = 64 * (T + 1) + mvV (t 0) (t 1) c2 d2))) ∧
      ∀ j : Nat, g2 28 j ≠ 0 ↔ (g 28 j ≠ 0 ∨ ∃ c2 : Nat, (c ≤ c2 ∧ c2 < c + mm) ∧ rch t a T c2 ∧ glV t a (dps t k T) c2 = true ∧ j = 64 * T + c2) := by
  have Mb := M_b hW
  have w5 := hW.sl
  have w6 := hW.wd.2.2.2.2
  intro mm
  induction mm with
  | zero =>
    intro c n hr g e1 e2 F h13 h27
    obtain ⟨n, rfl⟩ : ∃ n', n = n' + 1 := ⟨n - 1, by omega⟩
    have Tm := T0.m.frS F
    have h35 : g 35 35 = t 5 := (F _ _ (by omega) (by omega) (by omega) (by omega)).trans T0.2.2.1
    obtain ⟨g2, f1, f2, f3⟩ := drift_e (n := n) (S := (t 5).toNat) (g := g) (pos := fun i => dps t i T) (drv := fun i => t (21 + 3 * i)) (by omega) hW.1 hW.2.1 (by omega) (fun i hi => dps_b hW hh (by omega) T) (fun i hi => by have := hW.sh (k := i) (by omega); exact this.2.2) Tm.1.1.2.2.2 Tm.1.2.2.1 Tm.1.2.2.2.1 (by rw [h35]; omega) (fun i hi => h13 i (by omega)) (fun i hi => by
      rw [F _ _ (by omega) (by omega) (by omega) (by omega)]
      have := (T0.2.2.2 i (by omega)).2.2.1
      exact this.trans (if_pos (by omega)))
    refine ⟨n, g2, ?_, by omega, F.t (fun i j w1 _ _ _ => f3 i j (by omega)), fun i hi => f2 i (by omega), fun j => ?_, fun j => ?_⟩
    · have e : wiA (t 0) (glV t a (dps t k T)) (t (31 + 3 * a)) (T : Int) 0 c = false := rfl
      rw [e_X12_findSoon_63, Tm.1.2.2.1, Tm.1.2.2.2.1, xg_pos (by omega), if_neg (by omega), f1, xb_some, xg_pos (by omega), e, if_neg (by decide), show (T : Int) + 1 = ((T + 1 : Nat) : Int) by omega]
    · rw [f3 _ _ (by omega)]
      refine ⟨fun w => Or.inl w, fun w => ?_⟩
      rcases w with w | ⟨-, c2, d2, w, -⟩
      · exact w
      · omega
    · rw [f3 _ _ (by omega)]
      refine ⟨fun w => Or.inl w, fun w => ?_⟩
      rcases w with w | ⟨c2, w, -⟩
      · exact w
      · omega
  | succ mm ih =>
    intro c n hr g e1 e2 F h13 h27
    obtain ⟨n, rfl⟩ : ∃ n', n = n' + 1 := ⟨n - 1, by omega⟩
    have Tm := T0.m.frS F
    have P : ∀ {j : Nat} {kk : Int}, (j, kk) ∈ rQL → g 35 j = kk := fun hm => Tm.1.1.2.2.2.p hm
    have e64 : ((64 * (T : Int)) + (c : Int)).toNat = 64 * T + c := by omega
    have st : wiA (t 0) (glV t a (dps t k T)) (t (31 + 3 * a)) (T : Int) (mm + 1) c = ((glV t a (dps t k T) c && decide (rwB (t 0) (t (31 + 3 * a)) (c : Int) ≤ (T : Int))) || wiA (t 0) (glV t a (dps t k T)) (t (31 + 3 * a)) (T : Int) mm (c + 1)) := rfl
    have rc := h27 c (by omega)
    rw [e_X12_findSoon_63, Tm.1.2.2.1, Tm.1.2.2.2.1, xg_pos (by omega), if_pos (by omega), xg_pos (P (j := 52) (kk := 27) (by decide)), xg_pos (by omega), xg_pos (by omega), xg_pos (by omega), e64, st]
    by_cases z : g 27 (64 * T + c) = 0
    · have nr : ¬ rch t a T c := fun w => rc.mpr w z
      obtain ⟨n', g2, f1, f2, f3, f4, f5, f6⟩ := ih (c + 1) n hr g (by omega) (by omega) F h13 h27
      rw [if_pos z, xg_pos (by omega), show (c : Int) + 1 = ((c + 1 : Nat) : Int) by omega, decide_eq_false (show ¬ (rwB (t 0) (t (31 + 3 * a)) (c : Int) ≤ (T : Int)) from nr), Bool.and_false, Bool.false_or]
      refine ⟨n', g2, f1, by omega, f3, f4, fun j => (f5 j).trans ⟨fun w => ?_, fun w => ?_⟩, fun j => (f6 j).trans ⟨fun w => ?_, fun w => ?_⟩⟩
      · rcases w with w | ⟨w0, c2, d2, w1, w2⟩
        · exact Or.inl w
        · exact Or.inr ⟨w0, c2, d2, by omega, w2⟩
      · rcases w with w | ⟨w0, c2, d2, w1, w2, w3⟩
        · exact Or.inl w
        · by_cases y : c2 = c
          · rw [y] at w2
            exact absurd w2 nr
          · exact Or.inr ⟨w0, c2, d2, by omega, w2, w3⟩
      · rcases w with w | ⟨c2, w1, w2⟩
        · exact Or.inl w
        · exact Or.inr ⟨c2, by omega, w2⟩
      · rcases w with w | ⟨c2, w1, w2, w3⟩
        · exact Or.inl w
        · by_cases y : c2 = c
          · rw [y] at w2
            exact absurd w2 nr
          · exact Or.inr ⟨c2, by omega, w2, w3⟩
    · have yr : rch t a T c := rc.mp z
      have cd := couldM_e (n := n) (b := a) (k := k) (x := (c : Int)) (p := dps t k T) (by omega) Tm hW hW ha (by omega) (by omega) (h13 k hk) (by have := dps_b hW hh hk T; omega)
      rw [cld_g] at cd
      -- behind the deeds
      have fin : ∀ (n1 : Nat) (hr1 : Int) (g1 : yH), n ≤ n1 + 0 → n1 ≤ n → frS g0 g1 → (∀ i j, i ≠ 28 → g1 i j = g i j) → (∀ j : Nat, g1 28 j ≠ 0 ↔ (g 28 j ≠ 0 ∨ (glV t a (dps t k T) c = true ∧ j = 64 * T + c))) →
          ∃ n' g2, xl_X12_findSoon n1 124 [35, (a : Int), (k : Int), hr1, (T : Int), (c : Int), 0] g1 = xl_X12_findSoon n' 48 [35, (a : Int), (k : Int), (if wiA (t 0) (glV t a (dps t k T)) (t (31 + 3 * a)) (T : Int) mm (c + 1) = true then (T : Int) else hr1), ((T + 1 : Nat) : Int)] g2 ∧ n + 1 ≤ n' + 8 * (mm + 1) + 1 ∧ frS g0 g2 ∧ (∀ i : Nat, (i : Int) < t 5 → g2 13 i = dps t i (T + 1)) ∧
          (∀ j : Nat, g2 27 j ≠ 0 ↔ (g 27 j ≠ 0 ∨ (T < 30 ∧ ∃ (c2 : Nat) (d2 : Int), (c ≤ c2 ∧ c2 < c + (mm + 1)) ∧ rch t a T c2 ∧ (0 ≤ d2 ∧ d2 ≤ 4) ∧ mvV (t 0) (t 1) c2 d2 ≠ -1 ∧ (j : Int) = 64 * (T + 1) + mvV (t 0) (t 1) c2 d2))) ∧
          ∀ j : Nat, g2 28 j ≠ 0 ↔ (g 28 j ≠ 0 ∨ ∃ c2 : Nat, (c ≤ c2 ∧ c2 < c + (mm + 1)) ∧ rch t a T c2 ∧ glV t a (dps t k T) c2 = true ∧ j = 64 * T + c2) := by
        intro n1 hr1 g1 k1 k2 F1 x1 x2
        obtain ⟨n2, g2, p1, p2, p3, p4, p5⟩ := fwd_e (a := a) (k := k) (c := (c : Int)) (T := (T : Int)) (hr := hr1) (n := n1) hW T0 (by omega) (by omega) (by omega) F1
        have F2 : frS g0 g2 := F1.t (fun i j _ _ w _ => p4 i j w)
        have r27 : ∀ j : Nat, j < 64 * (T + 1) → (g2 27 j ≠ 0 ↔ g 27 j ≠ 0) := fun j hj => (p5 j).trans (by
          rw [x1 27 j (by decide)]
          refine ⟨fun w => ?_, fun w => Or.inl w⟩
          rcases w with w | ⟨-, d2, -, w2, w3⟩
          · exact w
          · have b := mv_b (d := d2) (p := (c : Int)) hW.1 hW.2.1 (by omega)
            omega)
        obtain ⟨n', g3, f1, f2, f3, f4, f5, f6⟩ := ih (c + 1) n2 hr1 g2 (by omega) (by omega) F2 (fun i hi => by rw [p4 _ _ (by decide), x1 _ _ (by decide)]; exact h13 i hi) (fun q hq => (r27 _ (by omega)).trans (h27 q hq))
        refine ⟨n', g3, ?_, by omega, f3, f4, fun j => (f5 j).trans ⟨fun w => ?_, fun w => ?_⟩, fun j => (f6 j).trans ⟨fun w => ?_, fun w => ?_⟩⟩
        · rw [p1, show (c : Int) + 1 = ((c + 1 : Nat) : Int) by omega]
          exact f1
        · rcases w with w | ⟨w0, c2, d2, w1, w2⟩
          · rw [p5, x1 27 j (by decide)] at w
            rcases w with w | ⟨w0, d2, w1, w2, w3⟩
            · exact Or.inl w
            · exact Or.inr ⟨by omega, c, d2, by omega, yr, w1, w2, w3⟩
          · exact Or.inr ⟨w0, c2, d2, by omega, w2⟩
        · rcases w with w | ⟨w0, c2, d2, w1, w2, w3, w4, w5⟩
          · exact Or.inl ((p5 j).mpr (Or.inl (by rw [x1 27 j (by decide)]; exact w)))
          · by_cases y : c2 = c
            · rw [y] at w4 w5
              exact Or.inl ((p5 j).mpr (Or.inr ⟨by omega, d2, w3, w4, w5⟩))
            · exact Or.inr ⟨w0, c2, d2, by omega, w2, w3, w4, w5⟩
        · rcases w with w | ⟨c2, w1, w2⟩
          · rw [p4 _ _ (by decide), x2] at w
            rcases w with w | ⟨w1, w2⟩
            · exact Or.inl w
            · exact Or.inr ⟨c, by omega, yr, w1, w2⟩
          · exact Or.inr ⟨c2, by omega, w2⟩
        · rcases w with w | ⟨c2, w1, w2, w3, w4⟩
          · left
            rw [p4 _ _ (by decide), x2]
            exact Or.inl w
          · by_cases y : c2 = c
            · left
              rw [y] at w3 w4
              rw [p4 _ _ (by decide), x2]
              exact Or.inr ⟨w3, w4⟩
            · exact Or.inr ⟨c2, by omega, w2, w3, w4⟩
      rw [if_neg z, cd, xb_some, decide_eq_true (show rwB (t 0) (t (31 + 3 * a)) (c : Int) ≤ (T : Int) from yr), Bool.and_true]
      cases eg : glV t a (dps t k T) c with
      | false =>
        have e0 : (if (false : Bool) = true then (1 : Int) else 0) = 0 := if_neg (by decide)
        rw [e0, if_pos rfl, Bool.false_or]
        exact fin n hr g (by omega) (by omega) F (fun _ _ _ => rfl) (fun j => ⟨fun w => Or.inl w, fun w => by
          rcases w with w | ⟨w, -⟩
          · exact w
          · rw [eg] at w
            cases w⟩)
      | true =>
        have e0 : (if (true : Bool) = true then (1 : Int) else 0) = 1 := if_pos rfl
        rw [e0, if_neg (by decide), xg_pos (P (j := 53) (kk := 28) (by decide)), xg_pos (by omega), xg_pos (by omega), xg_pos (by omega), Bool.true_or, if_pos rfl]
        have f := fin n (T : Int) (zup g 28 (64 * T + c) 1) (by omega) (by omega) (F.t (fun i j _ _ _ w => zup_ne (by omega))) (fun i j w => zup_ne (by omega)) (fun j => by
          by_cases y : j = 64 * T + c
          · rw [y, zup_at]
            exact ⟨fun _ => Or.inr ⟨eg, rfl⟩, fun _ => by decide⟩
          · rw [zup_ne (by omega)]
            refine ⟨fun w => Or.inl w, fun w => ?_⟩
            rcases w with w | ⟨-, w⟩
            · exact w
            · exact absurd w y)
        have e1 : (if wiA (t 0) (glV t a (dps t k T)) (t (31 + 3 * a)) (T : Int) mm (c + 1) = true then (T : Int) else (T : Int)) = T := by
          by_cases y : wiA (t 0) (glV t a (dps t k T)) (t (31 + 3 * a)) (T : Int) mm (c + 1) = true
          · rw [if_pos y]
          · rw [if_neg y]
        rw [e1] at f
        exact f
end
section
/-! the fewest hours: found, and back -/
/-- the first hour, of m from T, with a goal within reach -/
def fhV (t : Nat → Int) (a k : Nat) : Nat → Nat → Int
  | 0, _ => -1
  | m + 1, T => if wiA (t 0) (glV t a (dps t k T)) (t (31 + 3 * a)) (T : Int) (t 0 * t 1).toNat 0 = true then (T : Int) else fhV t a k m (T + 1)
theorem fhV_b {t : Nat → Int} {a k : Nat} : ∀ m T, fhV t a k m T = -1 ∨ ∃ q : Nat, fhV t a k m T = (q : Int) ∧ T ≤ q ∧ q < T + m ∧ wiA (t 0) (glV t a (dps t k q)) (t (31 + 3 * a)) (q : Int) (t 0 * t 1).toNat 0 = true := by
  intro m
  induction m with
  | zero => intro T; exact Or.inl rfl
  | succ m ih =>
    intro T
    have e : fhV t a k (m + 1) T = if wiA (t 0) (glV t a (dps t k T)) (t (31 + 3 * a)) (T : Int) (t 0 * t 1).toNat 0 = true then (T : Int) else fhV t a k m (T + 1) := rfl
    by_cases c : wiA (t 0) (glV t a (dps t k T)) (t (31 + 3 * a)) (T : Int) (t 0 * t 1).toNat 0 = true
    · rw [e, if_pos c]
      exact Or.inr ⟨T, rfl, by omega, by omega, c⟩
    · rw [e, if_neg c]
      rcases ih (T + 1) with w | ⟨q, w1, w2, w3, w4⟩
      · exact Or.inl w
      · exact Or.inr ⟨q, w1, by omega, by omega, w4⟩
theorem hrs_l {s a k : Nat} {t : Nat → Int} {g0 : yH} (hW : tW0 t) (T0 : tst s t t g0) (hh : wh0 t) (ha : (a : Int) < t 6) (hk : (k : Int) < t 5) : ∀ (mm T n : Nat) (g : yH), mm + T = 31 → 600 * mm + 100 ≤ n → frS g0 g → (∀ i : Nat, (i : Int) < t 5 → g 13 i = dps t i T) → (T ≤ 30 → ∀ q : Nat, (q : Int) < t 0 * t 1 → (g 27 (64 * T + q) ≠ 0 ↔ rch t a T q)) → (∀ j, 64 * (T + 1) ≤ j → j < 1984 → g 27 j = 0) → (∀ j, j < 1984 → g 28 j = 0) →
    ∃ n' g2, xl_X12_findSoon n 48 [35, (a : Int), (k : Int), -1, (T : Int)] g = xl_X12_findSoon n' 196 [35, (a : Int), (k : Int), fhV t a k mm T, fhV t a k mm T - 1] g2 ∧ n ≤ n' + 600 * mm + 2 ∧ frS g0 g2 ∧
      ∀ q : Nat, fhV t a k mm T = (q : Int) → ∀ j : Nat, j < 1984 → (g2 28 j ≠ 0 ↔ ∃ c : Nat, (c : Int) < t 0 * t 1 ∧ rch t a q c ∧ glV t a (dps t k q) c = true ∧ j = 64 * q + c) := by
  have Mb := M_b hW
  intro mm
  induction mm with
  | zero =>
    intro T n g e1 e2 F h13 h27 z27 z28
    obtain ⟨n, rfl⟩ : ∃ n', n = n' + 1 := ⟨n - 1, by omega⟩
    refine ⟨n, g, ?_, by omega, F, fun q w => ?_⟩
    · rw [e_X12_findSoon_48, if_pos (by omega), xg_pos (by omega)]
      rfl
    · have e : fhV t a k 0 T = -1 := rfl
      omega
  | succ mm ih =>
    intro T n g e1 e2 F h13 h27 z27 z28
    obtain ⟨n, rfl⟩ : ∃ n', n = n' + 1 := ⟨n - 1, by omega⟩
    have e : fhV t a k (mm + 1) T = if wiA (t 0) (glV t a (dps t k T)) (t (31 + 3 * a)) (T : Int) (t 0 * t 1).toNat 0 = true then (T : Int) else fhV t a k mm (T + 1) := rfl
    obtain ⟨n1, g1, f1, f2, f3, f4, f5, f6⟩ := cel_l (s := s) hW T0 hh ha hk (show T ≤ 30 by omega) (t 0 * t 1).toNat 0 n (-1) g (by omega) (by omega) F h13 (h27 (by omega))
    rw [e_X12_findSoon_48, if_neg (by omega), if_pos rfl, e]
    rw [show ((0 : Nat) : Int) = 0 from rfl] at f1
    by_cases c : wiA (t 0) (glV t a (dps t k T)) (t (31 + 3 * a)) (T : Int) (t 0 * t 1).toNat 0 = true
    · rw [if_pos c] at f1 ⊢
      obtain ⟨n1, rfl⟩ : ∃ n', n1 = n' + 1 := ⟨n1 - 1, by omega⟩
      refine ⟨n1, g1, ?_, by omega, f3, fun q w j hj => ?_⟩
      · rw [f1, e_X12_findSoon_48]
        by_cases z : 30 < ((T + 1 : Nat) : Int)
        · rw [if_pos z, xg_pos (by omega)]
        · rw [if_neg z, if_neg (by omega), xg_pos (by omega)]
      · have w2 : q = T := by omega
        rw [w2]
        refine (f6 j).trans ⟨fun w => ?_, fun w => ?_⟩
        · rcases w with w | ⟨c2, w1, w2, w3, w4⟩
          · exact absurd (z28 j hj) w
          · exact ⟨c2, by omega, w2, w3, w4⟩
        · obtain ⟨c2, w1, w2, w3, w4⟩ := w
          exact Or.inr ⟨c2, by omega, w2, w3, w4⟩
    · rw [if_neg c] at f1 ⊢
      have nog : ∀ j, j < 1984 → g1 28 j = 0 := fun j hj => by
        by_cases y : g1 28 j = 0
        · exact y
        · rcases (f6 j).mp y with w | ⟨c2, w1, w2, w3, -⟩
          · exact absurd (z28 j hj) w
          · exact absurd ((wiA_c _ _).mpr ⟨c2, by omega, w3, w2⟩) c
      have z1 : T + 1 ≤ 30 → ∀ q : Nat, (q : Int) < t 0 * t 1 → (g1 27 (64 * (T + 1) + q) ≠ 0 ↔ rch t a (T + 1) q) := fun hT q hq => (f5 _).trans ⟨fun w => by
        rcases w with w | ⟨w0, c2, d2, w1, w2, w3, w4, w5⟩
        · exact absurd (z27 _ (by omega) (by omega)) w
        · have m2 := mv_2 (q := t (31 + 3 * a)) (d := d2) hW.1 hW.2.1 (show 0 ≤ (c2 : Int) ∧ (c2 : Int) < t 0 * t 1 by omega) w4
          have b := mv_b (d := d2) (p := (c2 : Int)) hW.1 hW.2.1 (by omega)
          have eq : mvV (t 0) (t 1) c2 d2 = (q : Int) := by omega
          rw [eq] at m2
          unfold rch at w2 ⊢
          omega, fun w => by
        right
        have c0 := hh.2 a (by have := hW.wd.2.2.2.2; omega) ha
        have c1 := (hW.bt (b := a) (by have := hW.wd.2.2.2.2; omega)).1
        unfold rch at w
        obtain ⟨p, d, p1, p2, p3, p4⟩ := mv_4 (m := T) hW.1 hW.2.1 (show 0 ≤ (q : Int) ∧ (q : Int) < t 0 * t 1 by omega) (q := t (31 + 3 * a)) (by omega) (by omega)
        refine ⟨by omega, p.toNat, d, by omega, ?_, p2, ?_, ?_⟩
        · unfold rch
          rw [Int.toNat_of_nonneg p1.1]
          exact p4
        · rw [Int.toNat_of_nonneg p1.1, p3]
          omega
        · rw [Int.toNat_of_nonneg p1.1, p3]
          omega⟩
      have z2 : ∀ j, 64 * (T + 1 + 1) ≤ j → j < 1984 → g1 27 j = 0 := fun j hj hj2 => by
        by_cases y : g1 27 j = 0
        · exact y
        · rcases (f5 j).mp y with w | ⟨w0, c2, d2, w1, w2, w3, w4, w5⟩
          · exact absurd (z27 _ (by omega) (by omega)) w
          · have b := mv_b (d := d2) (p := (c2 : Int)) hW.1 hW.2.1 (by omega)
            omega
      obtain ⟨n', g2, k1, k2, k3, k4⟩ := ih (T + 1) n1 g1 (by omega) (by omega) f3 f4 z1 z2 nog
      exact ⟨n', g2, f1.trans k1, by omega, k3, k4⟩
/-- a cell, going back: its deeds -/
theorem bkd_l {s a k T c : Nat} {hr : Int} {t : Nat → Int} {g0 : yH} (hW : tW0 t) (T0 : tst s t t g0) (hc : (c : Int) < t 0 * t 1) (hT : T < 30) : ∀ (mm d n : Nat) (g : yH), mm + d = 5 → mm < n → frS g0 g →
    ∃ n' g2, xl_X12_findSoon n 221 [35, (a : Int), (k : Int), hr, (T : Int), (c : Int), (d : Int)] g = xl_X12_findSoon n' 204 [35, (a : Int), (k : Int), hr, (T : Int), ((c + 1 : Nat) : Int)] g2 ∧ n = n' + mm + 1 ∧ (∀ i j, i ≠ 28 → g2 i j = g i j) ∧
      ∀ j : Nat, g2 28 j ≠ 0 ↔ (g 28 j ≠ 0 ∨ (j = 64 * T + c ∧ ∃ d2 : Int, ((d : Int) ≤ d2 ∧ d2 ≤ 4) ∧ mvV (t 0) (t 1) c d2 ≠ -1 ∧ g 28 (64 * (T + 1) + (mvV (t 0) (t 1) c d2).toNat) ≠ 0)) := by
  have Mb := M_b hW
  intro mm
  induction mm with
  | zero =>
    intro d n g e1 e2 F
    obtain ⟨n, rfl⟩ : ∃ n', n = n' + 1 := ⟨n - 1, by omega⟩
    refine ⟨n, g, ?_, by omega, fun _ _ _ => rfl, fun j => ⟨fun w => Or.inl w, fun w => ?_⟩⟩
    · rw [e_X12_findSoon_221, if_pos (by omega), xg_pos (by omega), show (c : Int) + 1 = ((c + 1 : Nat) : Int) by omega]
    · rcases w with w | ⟨-, d2, w, -⟩
      · exact w
      · omega
  | succ mm ih =>
    intro d n g e1 e2 F
    obtain ⟨n, rfl⟩ : ∃ n', n = n' + 1 := ⟨n - 1, by omega⟩
    have h24 : g 35 24 = t 0 := (F _ _ (by omega) (by omega) (by omega) (by omega)).trans T0.1.2.2.1
    have h25 : g 35 25 = t 1 := (F _ _ (by omega) (by omega) (by omega) (by omega)).trans T0.1.2.2.2.1
    have h53 : g 35 53 = 28 := (F _ _ (by omega) (by omega) (by omega) (by omega)).trans (T0.1.1.2.2.2.p (j := 53) (k := 28) (by decide))
    have m := mv_e (n := n) (p := (c : Int)) (d := (d : Int)) h24 h25 hW.1 hW.2.1 (by omega) (by omega)
    have b := mv_b (d := (d : Int)) (p := (c : Int)) hW.1 hW.2.1 (by omega)
    have e64 : ((64 * (T : Int)) + (c : Int)).toNat = 64 * T + c := by omega
    have ed : (d : Int) + 1 = ((d + 1 : Nat) : Int) := by omega
    -- what is found at the deed
    obtain ⟨v, ev⟩ : ∃ v : Int, v = if g 28 (64 * T + c) ≠ 0 ∨ (mvV (t 0) (t 1) c (d : Int) ≠ -1 ∧ g 28 (64 * (T + 1) + (mvV (t 0) (t 1) c (d : Int)).toNat) ≠ 0) then 1 else 0 := ⟨_, rfl⟩
    have key : xl_X12_findSoon (n + 1) 221 [35, (a : Int), (k : Int), hr, (T : Int), (c : Int), (d : Int)] g = xl_X12_findSoon n 221 [35, (a : Int), (k : Int), hr, (T : Int), (c : Int), ((d + 1 : Nat) : Int)] (zup g 28 (64 * T + c) v) := by
      rw [e_X12_findSoon_221, if_neg (by omega), m, xb_some, xg_pos h53, xg_pos (by omega), xg_pos (by omega), xg_pos h53, xg_pos (by omega), xg_pos (by omega), xg_pos (by omega), e64]
      by_cases z : g 28 (64 * T + c) = 0
      · rw [if_pos z]
        by_cases y : mvV (t 0) (t 1) c (d : Int) = -1
        · rw [if_pos y, xg_pos (by omega), xg_pos (by omega), ev, ed, if_neg (by exact fun w => w.elim (fun w => w z) (fun w => w.1 y))]
        · have b2 : 0 ≤ mvV (t 0) (t 1) c (d : Int) ∧ mvV (t 0) (t 1) c (d : Int) < t 0 * t 1 := by
            rcases b with b | b
            · exact absurd b y
            · exact b
          have e65 : ((64 * ((T : Int) + 1)) + mvV (t 0) (t 1) c (d : Int)).toNat = 64 * (T + 1) + (mvV (t 0) (t 1) c (d : Int)).toNat := by omega
          rw [if_neg y, xg_pos h53, xg_pos (by omega), xg_pos (by omega), xg_pos (by omega), xg_pos (by omega), e65]
          by_cases x : g 28 (64 * (T + 1) + (mvV (t 0) (t 1) c (d : Int)).toNat) = 0
          · rw [if_pos x, xg_pos (by omega), xg_pos (by omega), ev, ed, if_neg (by exact fun w => w.elim (fun w => w z) (fun w => w.2 x))]
          · rw [if_neg x, xg_pos (by omega), xg_pos (by omega), ev, ed, if_pos (by exact Or.inr ⟨y, x⟩)]
      · rw [if_neg z, xg_pos (by omega), xg_pos (by omega), ev, ed, if_pos (by exact Or.inl z)]
    obtain ⟨n', g2, f1, f2, f3, f4⟩ := ih (d + 1) n (zup g 28 (64 * T + c) v) (by omega) (by omega) (F.t (fun i j _ _ _ w => zup_ne (by omega)))
    have far : ∀ d2 : Int, mvV (t 0) (t 1) c d2 ≠ -1 → zup g 28 (64 * T + c) v 28 (64 * (T + 1) + (mvV (t 0) (t 1) c d2).toNat) = g 28 (64 * (T + 1) + (mvV (t 0) (t 1) c d2).toNat) := fun d2 _ => zup_ne (by omega)
    have at_ : ∀ j, zup g 28 (64 * T + c) v 28 j ≠ 0 ↔ (g 28 j ≠ 0 ∨ (j = 64 * T + c ∧ mvV (t 0) (t 1) c (d : Int) ≠ -1 ∧ g 28 (64 * (T + 1) + (mvV (t 0) (t 1) c (d : Int)).toNat) ≠ 0)) := fun j => by
      by_cases y : j = 64 * T + c
      · rw [y, zup_at, ev]
        by_cases x : g 28 (64 * T + c) ≠ 0 ∨ (mvV (t 0) (t 1) c (d : Int) ≠ -1 ∧ g 28 (64 * (T + 1) + (mvV (t 0) (t 1) c (d : Int)).toNat) ≠ 0)
        · rw [if_pos x]
          exact ⟨fun _ => x.elim (fun w => Or.inl w) (fun w => Or.inr ⟨rfl, w⟩), fun _ => by decide⟩
        · rw [if_neg x]
          exact ⟨fun w => absurd rfl w, fun w => absurd (w.elim (fun w => Or.inl w) (fun w => Or.inr w.2)) x⟩
      · rw [zup_ne (by omega)]
        exact ⟨fun w => Or.inl w, fun w => w.elim (fun w => w) (fun w => absurd w.1 y)⟩
    refine ⟨n', g2, key.trans f1, by omega, fun i j w => (f3 i j w).trans (zup_ne (by omega)), fun j => (f4 j).trans ⟨fun w => ?_, fun w => ?_⟩⟩
    · rcases w with w | ⟨w0, d2, w1, w2, w3⟩
      · rcases (at_ j).mp w with w | ⟨w1, w2, w3⟩
        · exact Or.inl w
        · exact Or.inr ⟨w1, d, by omega, w2, w3⟩
      · rw [far d2 w2] at w3
        exact Or.inr ⟨w0, d2, by omega, w2, w3⟩
    · rcases w with w | ⟨w0, d2, w1, w2, w3⟩
      · exact Or.inl ((at_ j).mpr (Or.inl w))
      · by_cases y : d2 = (d : Int)
        · rw [y] at w2 w3
          exact Or.inl ((at_ j).mpr (Or.inr ⟨w0, w2, w3⟩))
        · exact Or.inr ⟨w0, d2, by omega, w2, by rw [far d2 w2]; exact w3⟩
/-- an hour, going back: its cells -/
theorem bkc_l {s a k T : Nat} {hr : Int} {t : Nat → Int} {g0 : yH} (hW : tW0 t) (T0 : tst s t t g0) (hT : T < 30) : ∀ (mm c n : Nat) (g : yH), (mm : Int) + c = t 0 * t 1 → 8 * mm + 20 ≤ n → frS g0 g →
    ∃ n' g2, xl_X12_findSoon n 204 [35, (a : Int), (k : Int), hr, (T : Int), (c : Int)] g = xl_X12_findSoon n' 196 [35, (a : Int), (k : Int), hr, (T : Int) + (-1)] g2 ∧ n ≤ n' + 7 * mm + 1 ∧ (∀ i j, i ≠ 28 → g2 i j = g i j) ∧
      ∀ j : Nat, g2 28 j ≠ 0 ↔ (g 28 j ≠ 0 ∨ ∃ (c2 : Nat) (d2 : Int), (c ≤ c2 ∧ c2 < c + mm) ∧ j = 64 * T + c2 ∧ (0 ≤ d2 ∧ d2 ≤ 4) ∧ mvV (t 0) (t 1) c2 d2 ≠ -1 ∧ g 28 (64 * (T + 1) + (mvV (t 0) (t 1) c2 d2).toNat) ≠ 0) := by
  have Mb := M_b hW
  intro mm
  induction mm with
  | zero =>
    intro c n g e1 e2 F
    obtain ⟨n, rfl⟩ : ∃ n', n = n' + 1 := ⟨n - 1, by omega⟩
    have h24 : g 35 24 = t 0 := (F _ _ (by omega) (by omega) (by omega) (by omega)).trans T0.1.2.2.1
    have h25 : g 35 25 = t 1 := (F _ _ (by omega) (by omega) (by omega) (by omega)).trans T0.1.2.2.2.1
    refine ⟨n, g, ?_, by omega, fun _ _ _ => rfl, fun j => ⟨fun w => Or.inl w, fun w => ?_⟩⟩
    · rw [e_X12_findSoon_204, h24, h25, xg_pos (by omega), if_neg (by omega), xg_pos (by omega)]
    · rcases w with w | ⟨c2, d2, w, -⟩
      · exact w
      · omega
  | succ mm ih =>
    intro c n g e1 e2 F
    obtain ⟨n, rfl⟩ : ∃ n', n = n' + 1 := ⟨n - 1, by omega⟩
    have h24 : g 35 24 = t 0 := (F _ _ (by omega) (by omega) (by omega) (by omega)).trans T0.1.2.2.1
    have h25 : g 35 25 = t 1 := (F _ _ (by omega) (by omega) (by omega) (by omega)).trans T0.1.2.2.2.1
    obtain ⟨n1, g1, p1, p2, p3, p4⟩ := bkd_l (a := a) (k := k) (hr := hr) hW T0 (show (c : Int) < t 0 * t 1 by omega) hT 5 0 n g (by omega) (by omega) F
    rw [show ((0 : Nat) : Int) = 0 from rfl] at p1 p4
    obtain ⟨n', g2, f1, f2, f3, f4⟩ := ih (c + 1) n1 g1 (by omega) (by omega) (F.t (fun i j _ _ _ w => p3 i j w))
    have far : ∀ j, 64 * (T + 1) ≤ j → (g1 28 j ≠ 0 ↔ g 28 j ≠ 0) := fun j hj => (p4 j).trans ⟨fun w => w.elim (fun w => w) (fun w => by omega), fun w => Or.inl w⟩
    refine ⟨n', g2, ?_, by omega, fun i j w => (f3 i j w).trans (p3 i j w), fun j => (f4 j).trans ⟨fun w => ?_, fun w => ?_⟩⟩
    · rw [e_X12_findSoon_204, h24, h25, xg_pos (by omega), if_pos (by omega), p1]
      exact f1
    · rcases w with w | ⟨c2, d2, w1, w2, w3, w4, w5⟩
      · rcases (p4 j).mp w with w | ⟨w0, d2, w1, w2, w3⟩
        · exact Or.inl w
        · exact Or.inr ⟨c, d2, by omega, w0, w1, w2, w3⟩
      · exact Or.inr ⟨c2, d2, by omega, w2, w3, w4, (far _ (by omega)).mp w5⟩
    · rcases w with w | ⟨c2, d2, w1, w2, w3, w4, w5⟩
      · exact Or.inl ((p4 j).mpr (Or.inl w))
      · by_cases y : c2 = c
        · rw [y] at w2 w4 w5
          exact Or.inl ((p4 j).mpr (Or.inr ⟨w2, d2, w3, w4, w5⟩))
        · exact Or.inr ⟨c2, d2, by omega, w2, w3, w4, (far _ (by omega)).mpr w5⟩
end
section
/-! the fewest hours: the hours back, and the way -/
theorem bkh_l {s a q k : Nat} {t : Nat → Int} {g0 : yH} {G : Nat → Bool} (hW : tW0 t) (T0 : tst s t t g0) (ha : (a : Int) < t 6) (hq : q ≤ 30) : ∀ (mm n : Nat) (g : yH), mm ≤ q → 600 * mm + 50 ≤ n → frS g0 g → (∀ r, mm ≤ r → r ≤ q → ∀ c : Nat, (c : Int) < t 0 * t 1 → rch t a r c → (g 28 (64 * r + c) ≠ 0 ↔ wiA (t 0) G (c : Int) ((q : Int) - r) (t 0 * t 1).toNat 0 = true)) → (∀ j, j < 64 * mm → g 28 j = 0) →
    ∃ n' g2, xl_X12_findSoon n 196 [35, (a : Int), (k : Int), (q : Int), (mm : Int) - 1] g = xl_X12_findSoon n' 324 [35, (a : Int), (k : Int), (q : Int), t (31 + 3 * a), 0] g2 ∧ n ≤ n' + 600 * mm + 1 ∧ (∀ i j, i ≠ 28 → g2 i j = g i j) ∧
      ∀ r, r ≤ q → ∀ c : Nat, (c : Int) < t 0 * t 1 → rch t a r c → (g2 28 (64 * r + c) ≠ 0 ↔ wiA (t 0) G (c : Int) ((q : Int) - r) (t 0 * t 1).toNat 0 = true) := by
  have Mb := M_b hW
  have w6 := hW.wd.2.2.2.2
  intro mm
  induction mm with
  | zero =>
    intro n g hm e2 F I Z
    obtain ⟨n, rfl⟩ : ∃ n', n = n' + 1 := ⟨n - 1, by omega⟩
    have h30 : g 35 30 = 10 := (F _ _ (by omega) (by omega) (by omega) (by omega)).trans (T0.1.1.2.2.2.p (j := 30) (k := 10) (by decide))
    have h10 : g 10 a = t (31 + 3 * a) := (F _ _ (by omega) (by omega) (by omega) (by omega)).trans (T0.1.2.2.2.2.2.2.2 a ha).1
    refine ⟨n, g, ?_, by omega, fun _ _ _ => rfl, fun r hr => I r (by omega) hr⟩
    rw [e_X12_findSoon_196, if_pos (by omega), xg_pos h30, xg_pos (by omega), Int.toNat_natCast, h10]
  | succ mm ih =>
    intro n g hm e2 F I Z
    obtain ⟨n, rfl⟩ : ∃ n', n = n' + 1 := ⟨n - 1, by omega⟩
    obtain ⟨n1, g1, p1, p2, p3, p4⟩ := bkc_l (a := a) (k := k) (hr := (q : Int)) hW T0 (show mm < 30 by omega) (t 0 * t 1).toNat 0 n g (by omega) (by omega) F
    rw [show ((0 : Nat) : Int) = 0 from rfl] at p1
    have far : ∀ j, 64 * (mm + 1) ≤ j → (g1 28 j ≠ 0 ↔ g 28 j ≠ 0) := fun j hj => (p4 j).trans ⟨fun w => w.elim (fun w => w) (fun ⟨c2, d2, w1, w2, _⟩ => by omega), fun w => Or.inl w⟩
    have z1 : ∀ r, mm ≤ r → r ≤ q → ∀ c : Nat, (c : Int) < t 0 * t 1 → rch t a r c → (g1 28 (64 * r + c) ≠ 0 ↔ wiA (t 0) G (c : Int) ((q : Int) - r) (t 0 * t 1).toNat 0 = true) := fun r r1 r2 c hc hr => by
      by_cases y : r = mm
      · subst y
        have hc0 : 0 ≤ (c : Int) ∧ (c : Int) < t 0 * t 1 := by omega
        -- what a deed leads to
        have dl : ∀ d : Int, mvV (t 0) (t 1) (c : Int) d ≠ -1 → (g 28 (64 * (r + 1) + (mvV (t 0) (t 1) (c : Int) d).toNat) ≠ 0 ↔ wiA (t 0) G (mvV (t 0) (t 1) (c : Int) d) ((q : Int) - (r + 1 : Nat)) (t 0 * t 1).toNat 0 = true) := fun d hd => by
          have b := mv_b (d := d) hW.1 hW.2.1 hc0
          have m2 := mv_2 (q := t (31 + 3 * a)) (d := d) hW.1 hW.2.1 hc0 hd
          have b0 : 0 ≤ mvV (t 0) (t 1) (c : Int) d ∧ mvV (t 0) (t 1) (c : Int) d < t 0 * t 1 := by
            rcases b with b | b
            · exact absurd b hd
            · exact b
          have k := I (r + 1) (by omega) (by omega) (mvV (t 0) (t 1) (c : Int) d).toNat (by omega) (by
            unfold rch at hr ⊢
            rw [Int.toNat_of_nonneg b0.1]
            omega)
          rw [Int.toNat_of_nonneg b0.1] at k
          exact k
        refine (p4 _).trans ⟨fun w => ?_, fun w => ?_⟩
        · rcases w with w | ⟨c2, d2, w1, w2, w3, w4, w5⟩
          · exact absurd (Z _ (by omega)) w
          · have y : c2 = c := by omega
            rw [y] at w4 w5
            obtain ⟨x, x1, x2, x3⟩ := (wiA_c _ _).mp ((dl d2 w4).mp w5)
            have m1 := mv_1 (q := (x : Int)) (d := d2) hW.1 hc0 w4
            exact (wiA_c _ _).mpr ⟨x, x1, x2, by omega⟩
        · obtain ⟨x, x1, x2, x3⟩ := (wiA_c _ _).mp w
          obtain ⟨d, d1, d2, d3⟩ := mv_3 (q := (x : Int)) (m := q - r - 1) hW.1 hc0 (by omega) (by omega)
          exact Or.inr ⟨c, d, by omega, rfl, d1, d2, (dl d d2).mpr ((wiA_c _ _).mpr ⟨x, x1, x2, by omega⟩)⟩
      · exact (far _ (by omega)).trans (I r (by omega) r2 c hc hr)
    have z2 : ∀ j, j < 64 * mm → g1 28 j = 0 := fun j hj => by
      by_cases y : g1 28 j = 0
      · exact y
      · rcases (p4 j).mp y with w | ⟨c2, d2, w1, w2, -⟩
        · exact absurd (Z _ (by omega)) w
        · omega
    obtain ⟨n', g2, f1, f2, f3, f4⟩ := ih n1 g1 (by omega) (by omega) (F.t (fun i j _ _ _ w => p3 i j w)) z1 z2
    refine ⟨n', g2, ?_, by omega, fun i j w => (f3 i j w).trans (p3 i j w), f4⟩
    rw [e_X12_findSoon_196, if_neg (by omega), show ((mm + 1 : Nat) : Int) - 1 = (mm : Int) by omega, p1, show (mm : Int) + (-1) = (mm : Int) - 1 by omega]
    exact f1
/-- the first side, of m from s, that leads to within so many rows of a goal -/
def frA (t : Nat → Int) (G : Nat → Bool) (c rows : Int) : Nat → Nat → Int
  | 0, _ => 4
  | m + 1, s => if besV (t 0) (t 1) c (s : Int) ≠ -1 ∧ wiA (t 0) G (besV (t 0) (t 1) c (s : Int)) rows (t 0 * t 1).toNat 0 = true then (s : Int) else frA t G c rows m (s + 1)
theorem frA_s {t : Nat → Int} {G : Nat → Bool} {c rows : Int} {m s : Nat} : frA t G c rows (m + 1) s = if besV (t 0) (t 1) c (s : Int) ≠ -1 ∧ wiA (t 0) G (besV (t 0) (t 1) c (s : Int)) rows (t 0 * t 1).toNat 0 = true then (s : Int) else frA t G c rows m (s + 1) := rfl
theorem frA_c {t : Nat → Int} {G : Nat → Bool} {c rows : Int} : ∀ m s : Nat, m + s = 4 → (frA t G c rows m s = 4 ∧ ∀ x : Nat, s ≤ x → x < 4 → ¬ (besV (t 0) (t 1) c (x : Int) ≠ -1 ∧ wiA (t 0) G (besV (t 0) (t 1) c (x : Int)) rows (t 0 * t 1).toNat 0 = true)) ∨ ∃ x : Nat, frA t G c rows m s = (x : Int) ∧ x < 4 ∧ besV (t 0) (t 1) c (x : Int) ≠ -1 ∧ wiA (t 0) G (besV (t 0) (t 1) c (x : Int)) rows (t 0 * t 1).toNat 0 = true := by
  intro m
  induction m with
  | zero => intro s e; exact Or.inl ⟨rfl, fun x w1 w2 => by omega⟩
  | succ m ih =>
    intro s e
    rw [frA_s]
    by_cases z : besV (t 0) (t 1) c (s : Int) ≠ -1 ∧ wiA (t 0) G (besV (t 0) (t 1) c (s : Int)) rows (t 0 * t 1).toNat 0 = true
    · rw [if_pos z]
      exact Or.inr ⟨s, rfl, by omega, z⟩
    · rw [if_neg z]
      rcases ih (s + 1) (by omega) with ⟨w1, w2⟩ | w
      · exact Or.inl ⟨w1, fun x x1 x2 => by
          by_cases y : x = s
          · rw [y]; exact z
          · exact w2 x (by omega) x2⟩
      · exact Or.inr w
/-- where no row leads nearer, waiting does -/
theorem frA_w {t : Nat → Int} {G : Nat → Bool} {c : Int} {m : Nat} (hW : tW0 t) (hc : 0 ≤ c ∧ c < t 0 * t 1) (hn : ∀ x : Nat, x < 4 → ¬ (besV (t 0) (t 1) c (x : Int) ≠ -1 ∧ wiA (t 0) G (besV (t 0) (t 1) c (x : Int)) (m : Int) (t 0 * t 1).toNat 0 = true)) (hw : wiA (t 0) G c ((m : Int) + 1) (t 0 * t 1).toNat 0 = true) : wiA (t 0) G c (m : Int) (t 0 * t 1).toNat 0 = true := by
  obtain ⟨x, x1, x2, x3⟩ := (wiA_c _ _).mp hw
  obtain ⟨d, d1, d2, d3⟩ := mv_3 (q := (x : Int)) (m := m) hW.1 hc (by omega) x3
  by_cases y : d = 4
  · have e : mvV (t 0) (t 1) c d = c := if_pos y
    rw [e] at d3
    exact (wiA_c _ _).mpr ⟨x, x1, x2, d3⟩
  · have e : mvV (t 0) (t 1) c d = besV (t 0) (t 1) c d := if_neg y
    rw [e] at d2 d3
    obtain ⟨z, rfl⟩ : ∃ z : Nat, d = (z : Int) := ⟨d.toNat, by omega⟩
    exact absurd ⟨d2, (wiA_c _ _).mpr ⟨x, x1, x2, d3⟩⟩ (hn z (by omega))
/-- where the boat is at an hour of the way -/
def clV (t : Nat → Int) (a : Nat) (G : Nat → Bool) (q : Nat) : Nat → Int
  | 0 => t (31 + 3 * a)
  | n + 1 => drV (t 0) (t 1) (clV t a G q n) (frA t G (clV t a G q n) (((q : Int) - (n : Int)) - 1) 4 0)
def sdV (t : Nat → Int) (a : Nat) (G : Nat → Bool) (q n : Nat) : Int := frA t G (clV t a G q n) (((q : Int) - (n : Int)) - 1) 4 0
theorem clV_i {t : Nat → Int} {a q : Nat} {G : Nat → Bool} (hW : tW0 t) (hh : wh0 t) (ha : (a : Int) < t 6) (h0 : wiA (t 0) G (t (31 + 3 * a)) (q : Int) (t 0 * t 1).toNat 0 = true) : ∀ n, n ≤ q → (0 ≤ clV t a G q n ∧ clV t a G q n < t 0 * t 1) ∧ rch t a n (clV t a G q n) ∧ wiA (t 0) G (clV t a G q n) ((q : Int) - (n : Int)) (t 0 * t 1).toNat 0 = true := by
  have w6 := hW.wd.2.2.2.2
  intro n
  induction n with
  | zero =>
    intro _
    have c0 := hh.2 a (by omega) ha
    have c1 := (hW.bt (b := a) (by omega)).1
    refine ⟨⟨c1.1, c0⟩, ?_, ?_⟩
    · show rwB (t 0) (t (31 + 3 * a)) (t (31 + 3 * a)) ≤ ((0 : Nat) : Int)
      rw [rw_0]
      decide
    · rw [show (q : Int) - ((0 : Nat) : Int) = (q : Int) by omega]
      exact h0
  | succ n ih =>
    intro hn
    obtain ⟨i1, i2, i3⟩ := ih (by omega)
    have e : clV t a G q (n + 1) = drV (t 0) (t 1) (clV t a G q n) (frA t G (clV t a G q n) (((q : Int) - (n : Int)) - 1) 4 0) := rfl
    obtain ⟨c, ec⟩ : ∃ c, c = clV t a G q n := ⟨_, rfl⟩
    rw [← ec] at e i1 i2 i3
    have eq : ((q : Int) - (n : Int)) - 1 = ((q - n - 1 : Nat) : Int) := by omega
    have eq2 : (q : Int) - ((n + 1 : Nat) : Int) = ((q - n - 1 : Nat) : Int) := by omega
    rw [e, eq2]
    rw [eq]
    rcases frA_c (t := t) (G := G) (c := c) (rows := ((q - n - 1 : Nat) : Int)) 4 0 rfl with ⟨w1, w2⟩ | ⟨x, w1, w2, w3, w4⟩
    · rw [w1, drV_4]
      refine ⟨i1, ?_, frA_w hW i1 (fun x hx => w2 x (Nat.zero_le _) hx) ?_⟩
      · unfold rch at i2 ⊢
        omega
      · rw [show ((q - n - 1 : Nat) : Int) + 1 = (q : Int) - (n : Int) by omega]
        exact i3
    · have e4 : drV (t 0) (t 1) c (x : Int) = besV (t 0) (t 1) c (x : Int) := if_neg w3
      have b := besV_b (s := (x : Int)) hW.1 hW.2.1 i1
      have em : mvV (t 0) (t 1) c (x : Int) = besV (t 0) (t 1) c (x : Int) := if_neg (by omega)
      have m2 := mv_2 (q := t (31 + 3 * a)) (d := (x : Int)) hW.1 hW.2.1 i1 (by rw [em]; exact w3)
      rw [em] at m2
      rw [w1, e4]
      refine ⟨?_, ?_, w4⟩
      · rcases b with b | b
        · exact absurd b w3
        · exact b
      · unfold rch at i2 ⊢
        omega
/-- the reference's way: an hour -/
theorem wyi_l {s a k q T : Nat} {c : Int} {t : Nat → Int} {g0 g : yH} {G : Nat → Bool} (hW : tW0 t) (T0 : tst s t t g0) (F : frS g0 g) (hq : q ≤ 30) (hT : T < q) (hc : 0 ≤ c ∧ c < t 0 * t 1) (hr : rch t a T c) (hw : wiA (t 0) G c ((q : Int) - (T : Int)) (t 0 * t 1).toNat 0 = true) (I : ∀ x : Nat, (x : Int) < t 0 * t 1 → rch t a (T + 1) x → (g 28 (64 * (T + 1) + x) ≠ 0 ↔ wiA (t 0) G (x : Int) ((q : Int) - (T + 1 : Nat)) (t 0 * t 1).toNat 0 = true)) : ∀ (mm d n : Nat), mm + d = 4 → mm < n → (∀ x : Nat, x < d → ¬ (besV (t 0) (t 1) c (x : Int) ≠ -1 ∧ wiA (t 0) G (besV (t 0) (t 1) c (x : Int)) (((q : Int) - (T : Int)) - 1) (t 0 * t 1).toNat 0 = true)) →
    ∃ n', xl_X12_findSoon n 333 [35, (a : Int), (k : Int), (q : Int), c, (T : Int), (d : Int)] g = xl_X12_findSoon n' 324 [35, (a : Int), (k : Int), (q : Int), drV (t 0) (t 1) c (frA t G c (((q : Int) - (T : Int)) - 1) mm d), ((T + 1 : Nat) : Int)] (zup g 26 T (frA t G c (((q : Int) - (T : Int)) - 1) mm d)) ∧ n ≤ n' + mm + 1 := by
  have Mb := M_b hW
  have Tm := T0.m.frS F
  have P : ∀ {j : Nat} {kk : Int}, (j, kk) ∈ rQL → g 35 j = kk := fun hm => Tm.1.1.2.2.2.p hm
  have h24 : g 35 24 = t 0 := Tm.1.2.2.1
  have h25 : g 35 25 = t 1 := Tm.1.2.2.2.1
  have eq : ((q : Int) - (T : Int)) - 1 = ((q - T - 1 : Nat) : Int) := by omega
  have eq2 : (q : Int) - ((T + 1 : Nat) : Int) = ((q - T - 1 : Nat) : Int) := by omega
  rw [eq2] at I
  rw [eq]
  -- a deed's place in the array
  have dl : ∀ d : Int, mvV (t 0) (t 1) c d ≠ -1 → (0 ≤ mvV (t 0) (t 1) c d ∧ mvV (t 0) (t 1) c d < t 0 * t 1) ∧ (g 28 (64 * (T + 1) + (mvV (t 0) (t 1) c d).toNat) ≠ 0 ↔ wiA (t 0) G (mvV (t 0) (t 1) c d) ((q - T - 1 : Nat) : Int) (t 0 * t 1).toNat 0 = true) := fun d hd => by
    have b := mv_b (d := d) hW.1 hW.2.1 hc
    have m2 := mv_2 (q := t (31 + 3 * a)) (d := d) hW.1 hW.2.1 hc hd
    have b0 : 0 ≤ mvV (t 0) (t 1) c d ∧ mvV (t 0) (t 1) c d < t 0 * t 1 := by
      rcases b with b | b
      · exact absurd b hd
      · exact b
    have k := I (mvV (t 0) (t 1) c d).toNat (by omega) (by
      unfold rch at hr ⊢
      rw [Int.toNat_of_nonneg b0.1]
      omega)
    rw [Int.toNat_of_nonneg b0.1] at k
    exact ⟨b0, k⟩
  -- the deed that is taken
  have tk : ∀ (d n : Nat) (z : Int), d ≤ 4 → mvV (t 0) (t 1) c (d : Int) = z → z ≠ -1 → wiA (t 0) G z ((q - T - 1 : Nat) : Int) (t 0 * t 1).toNat 0 = true → xl_X12_findSoon (n + 1) 333 [35, (a : Int), (k : Int), (q : Int), c, (T : Int), (d : Int)] g = xl_X12_findSoon n 324 [35, (a : Int), (k : Int), (q : Int), z, ((T + 1 : Nat) : Int)] (zup g 26 T (d : Int)) := fun d n z hd ez hz hg => by
    have m := mv_e (n := n) (d := (d : Int)) h24 h25 hW.1 hW.2.1 hc (by omega)
    have m2 := mv_e (n := n) (d := (d : Int)) (g := zup g 26 T (d : Int)) (by rw [zup_ne (by omega)]; exact h24) (by rw [zup_ne (by omega)]; exact h25) hW.1 hW.2.1 hc (by omega)
    obtain ⟨b0, k⟩ := dl (d : Int) (by rw [ez]; exact hz)
    rw [ez] at m m2 b0 k
    have e65 : ((64 * ((T : Int) + 1)) + z).toNat = 64 * (T + 1) + z.toNat := by omega
    rw [e_X12_findSoon_333, m, xb_some, if_neg hz, xg_pos (P (j := 53) (kk := 28) (by decide)), xg_pos (by omega), xg_pos (by omega), m, xb_some, xg_pos (by omega), xg_pos (by omega), e65, if_neg (k.mpr hg), xg_pos (P (j := 54) (kk := 26) (by decide)), xg_pos (by omega), Int.toNat_natCast, m2, xb_some, xg_pos (by omega), show (T : Int) + 1 = ((T + 1 : Nat) : Int) by omega]
  intro mm
  induction mm with
  | zero =>
    intro d n e1 e2 hno
    obtain ⟨n, rfl⟩ : ∃ n', n = n' + 1 := ⟨n - 1, by omega⟩
    have ed : d = 4 := by omega
    subst ed
    have e : frA t G c ((q - T - 1 : Nat) : Int) 0 4 = 4 := rfl
    have g4 := frA_w hW hc hno (show wiA (t 0) G c (((q - T - 1 : Nat) : Int) + 1) (t 0 * t 1).toNat 0 = true by
      rw [show ((q - T - 1 : Nat) : Int) + 1 = (q : Int) - (T : Int) by omega]
      exact hw)
    rw [e, drV_4]
    exact ⟨n, tk 4 n c (by omega) (if_pos rfl) (by omega) g4, by omega⟩
  | succ mm ih =>
    intro d n e1 e2 hno
    obtain ⟨n, rfl⟩ : ∃ n', n = n' + 1 := ⟨n - 1, by omega⟩
    have em : mvV (t 0) (t 1) c (d : Int) = besV (t 0) (t 1) c (d : Int) := if_neg (by omega)
    rw [frA_s]
    by_cases z : besV (t 0) (t 1) c (d : Int) ≠ -1 ∧ wiA (t 0) G (besV (t 0) (t 1) c (d : Int)) ((q - T - 1 : Nat) : Int) (t 0 * t 1).toNat 0 = true
    · have e4 : drV (t 0) (t 1) c (d : Int) = besV (t 0) (t 1) c (d : Int) := if_neg z.1
      rw [if_pos z, e4]
      exact ⟨n, tk d n _ (by omega) em z.1 z.2, by omega⟩
    · obtain ⟨n', f1, f2⟩ := ih (d + 1) n (by omega) (by omega) (fun x hx => by
        by_cases y : x = d
        · rw [y]; exact z
        · exact hno x (by omega))
      rw [if_neg z]
      refine ⟨n', Eq.trans ?_ f1, by omega⟩
      have m := mv_e (n := n) (d := (d : Int)) h24 h25 hW.1 hW.2.1 hc (by omega)
      rw [e_X12_findSoon_333, m, xb_some]
      by_cases y : mvV (t 0) (t 1) c (d : Int) = -1
      · rw [if_pos y, xg_pos (by omega), show (d : Int) + 1 = ((d + 1 : Nat) : Int) by omega]
      · obtain ⟨b0, k⟩ := dl (d : Int) y
        have e65 : ((64 * ((T : Int) + 1)) + mvV (t 0) (t 1) c (d : Int)).toNat = 64 * (T + 1) + (mvV (t 0) (t 1) c (d : Int)).toNat := by omega
        have g0' : g 28 (64 * (T + 1) + (mvV (t 0) (t 1) c (d : Int)).toNat) = 0 := by
          by_cases w : g 28 (64 * (T + 1) + (mvV (t 0) (t 1) c (d : Int)).toNat) = 0
          · exact w
          · have v := k.mp w
            rw [em] at v y
            exact absurd ⟨y, v⟩ z
        rw [if_neg y, xg_pos (P (j := 53) (kk := 28) (by decide)), xg_pos (by omega), xg_pos (by omega), m, xb_some, xg_pos (by omega), xg_pos (by omega), e65, if_pos g0', xg_pos (by omega), show (d : Int) + 1 = ((d + 1 : Nat) : Int) by omega]
/-- and the whole of it -/
theorem wyo_l {s a k q : Nat} {t : Nat → Int} {g0 : yH} {G : Nat → Bool} (hW : tW0 t) (hh : wh0 t) (ha : (a : Int) < t 6) (T0 : tst s t t g0) (hq : q ≤ 30) (h0 : wiA (t 0) G (t (31 + 3 * a)) (q : Int) (t 0 * t 1).toNat 0 = true) : ∀ (mm T n : Nat) (g : yH), mm + T = q → 6 * mm + 10 ≤ n → frS g0 g → (∀ r, r ≤ q → ∀ c : Nat, (c : Int) < t 0 * t 1 → rch t a r c → (g 28 (64 * r + c) ≠ 0 ↔ wiA (t 0) G (c : Int) ((q : Int) - r) (t 0 * t 1).toNat 0 = true)) →
    ∃ g2, xl_X12_findSoon n 324 [35, (a : Int), (k : Int), (q : Int), clV t a G q T, (T : Int)] g = some ((q : Int), g2) ∧ frS g0 g2 ∧ (∀ j, j < T → g2 26 j = g 26 j) ∧ ∀ j, T ≤ j → j < q → g2 26 j = sdV t a G q j := by
  intro mm
  induction mm with
  | zero =>
    intro T n g e1 e2 F I
    obtain ⟨n, rfl⟩ : ∃ n', n = n' + 1 := ⟨n - 1, by omega⟩
    refine ⟨g, ?_, F, fun _ _ => rfl, fun j w1 w2 => by omega⟩
    rw [e_X12_findSoon_324, if_neg (by omega)]
  | succ mm ih =>
    intro T n g e1 e2 F I
    obtain ⟨n, rfl⟩ : ∃ n', n = n' + 1 := ⟨n - 1, by omega⟩
    obtain ⟨i1, i2, i3⟩ := clV_i hW hh ha h0 T (by omega)
    obtain ⟨n1, p1, p2⟩ := wyi_l (k := k) (a := a) hW T0 F hq (show T < q by omega) i1 i2 i3 (fun x hx hr => I (T + 1) (by omega) x hx hr) 4 0 n rfl (by omega) (fun x w => by omega)
    obtain ⟨g2, f1, f2, f3, f4⟩ := ih (T + 1) n1 (zup g 26 T (sdV t a G q T)) (by omega) (by omega) (F.t (fun i j _ w _ _ => zup_ne (by omega))) (fun r hr c hc hrc => by
      rw [zup_ne (by omega)]
      exact I r hr c hc hrc)
    refine ⟨g2, ?_, f2, fun j hj => ?_, fun j w1 w2 => ?_⟩
    · rw [e_X12_findSoon_324, if_pos (by omega)]
      exact p1.trans f1
    · rw [f3 j (by omega), zup_ne (by omega)]
    · by_cases y : j = T
      · rw [y, f3 T (by omega), zup_at]
      · exact f4 j (by omega) w2
end
section
/-! the fewest hours: the whole of it, both sides -/
theorem clS_l {x1 x2 : Int} : ∀ (mm x n : Nat) (g : yH), mm + x = 1984 → mm ≤ n → g 35 52 = 27 → g 35 53 = 28 →
    ∃ g2, xl_X12_findSoon n 2 [35, x1, x2, (x : Int)] g = xl_X12_findSoon (n - mm) 2 [35, x1, x2, ((1984 : Nat) : Int)] g2 ∧ (∀ i j, i ≠ 27 → i ≠ 28 → g2 i j = g i j) ∧ (∀ j, j < x → g2 27 j = g 27 j ∧ g2 28 j = g 28 j) ∧ ∀ j, x ≤ j → j < 1984 → g2 27 j = 0 ∧ g2 28 j = 0 := by
  intro mm
  induction mm with
  | zero =>
    intro x n g e1 e2 h52 h53
    refine ⟨g, ?_, fun _ _ _ _ => rfl, fun _ _ => ⟨rfl, rfl⟩, fun j w1 w2 => by omega⟩
    rw [show x = 1984 by omega, Nat.sub_zero]
  | succ mm ih =>
    intro x n g e1 e2 h52 h53
    obtain ⟨n, rfl⟩ : ∃ n', n = n' + 1 := ⟨n - 1, by omega⟩
    obtain ⟨g2, f1, f2, f3, f4⟩ := ih (x + 1) n (zup (zup g 27 x 0) 28 x 0) (by omega) (by omega) (by rw [zup_ne (by omega), zup_ne (by omega)]; exact h52) (by rw [zup_ne (by omega), zup_ne (by omega)]; exact h53)
    refine ⟨g2, ?_, fun i j w1 w2 => by rw [f2 i j w1 w2, zup_ne (by omega), zup_ne (by omega)], fun j hj => ?_, fun j w1 w2 => ?_⟩
    · rw [e_X12_findSoon_2, xg_pos h52, if_pos (by omega), xg_pos h52, xg_pos (by omega), xg_pos h53, xg_pos (by omega), xg_pos (by omega), Int.toNat_natCast, show (x : Int) + 1 = ((x + 1 : Nat) : Int) by omega, f1, show n + 1 - (mm + 1) = n - mm by omega]
    · obtain ⟨k1, k2⟩ := f3 j (by omega)
      exact ⟨by rw [k1, zup_ne (by omega), zup_ne (by omega)], by rw [k2, zup_ne (by omega), zup_ne (by omega)]⟩
    · by_cases y : j = x
      · obtain ⟨k1, k2⟩ := f3 x (by omega)
        rw [y]
        exact ⟨by rw [k1, zup_ne (by omega), zup_at], by rw [k2, zup_at]⟩
      · exact f4 j (by omega) w2
theorem snR_e {s a k n : Nat} {t : Nat → Int} {g : yH} (hn : 40000 ≤ n) (hW : tW0 t) (T0 : tst s t t g) (hh : wh0 t) (ha : (a : Int) < t 6) (hk : (k : Int) < t 5) :
    ∃ g2, f_X12_findSoon n [35, (a : Int), (k : Int)] g = some (fhV t a k 31 0, g2) ∧ frS g g2 ∧ ∀ q : Nat, fhV t a k 31 0 = (q : Int) → ∀ j, j < q → g2 26 j = sdV t a (glV t a (dps t k q)) q j := by
  have Mb := M_b hW
  have w5 := hW.sl
  have w6 := hW.wd.2.2.2.2
  have P : ∀ {j : Nat} {kk : Int}, (j, kk) ∈ rQL → g 35 j = kk := fun hm => T0.1.1.2.2.2.p hm
  have p52 := P (j := 52) (kk := 27) (by decide)
  have p53 := P (j := 53) (kk := 28) (by decide)
  have p30 := P (j := 30) (kk := 10) (by decide)
  have c0 := hh.2 a (by omega) ha
  have c1 := (hW.bt (b := a) (by omega)).1
  have b10 : g 10 a = t (31 + 3 * a) := (T0.1.2.2.2.2.2.2.2 a ha).1
  obtain ⟨gA, A1, A2, -, A4⟩ := clS_l (x1 := (a : Int)) (x2 := (k : Int)) 1984 0 n g (by omega) (by omega) p52 p53
  rw [show ((0 : Nat) : Int) = 0 from rfl] at A1
  obtain ⟨nA, eA⟩ : ∃ nA, n - 1984 = nA + 1 := ⟨n - 1985, by omega⟩
  have FA : frS g (zup gA 27 (t (31 + 3 * a)).toNat 1) := fun i j w1 w2 w3 w4 => by rw [zup_ne (by omega), A2 i j w3 w4]
  have A5 : xl_X12_findSoon n 2 [35, (a : Int), (k : Int), 0] g = xl_X12_findSoon nA 48 [35, (a : Int), (k : Int), -1, 0] (zup gA 27 (t (31 + 3 * a)).toNat 1) := by
    rw [A1, eA, e_X12_findSoon_2, xg_pos ((A2 _ _ (by decide) (by decide)).trans p52), if_neg (by omega), xg_pos ((A2 _ _ (by decide) (by decide)).trans p52), xg_pos ((A2 _ _ (by decide) (by decide)).trans p30), xg_pos (by omega), Int.toNat_natCast, A2 10 a (by decide) (by decide), b10, xg_pos (by omega)]
  obtain ⟨nB, gB, B1, B2, B3, B4⟩ := hrs_l (s := s) hW T0 hh ha hk 31 0 nA (zup gA 27 (t (31 + 3 * a)).toNat 1) rfl (by omega) FA (fun i hi => by
    rw [zup_ne (by omega), A2 _ _ (by decide) (by decide)]
    exact (T0.2.2.2 i (by omega)).1.trans (if_pos hi)) (fun _ q hq => by
    unfold rch
    by_cases y : q = (t (31 + 3 * a)).toNat
    · rw [show 64 * 0 + q = (t (31 + 3 * a)).toNat by omega, zup_at, show (q : Int) = t (31 + 3 * a) by omega, rw_0]
      exact ⟨fun _ => by decide, fun _ => by decide⟩
    · rw [zup_ne (by omega), (A4 _ (by omega) (by omega)).1]
      refine ⟨fun w => absurd rfl w, fun w => ?_⟩
      have := rw_z w
      omega) (fun j w1 w2 => by
    rw [zup_ne (by omega)]
    exact (A4 j (by omega) w2).1) (fun j hj => by
    rw [zup_ne (by omega)]
    exact (A4 j (by omega) hj).2)
  rw [show ((0 : Nat) : Int) = 0 from rfl] at B1
  rw [e_X12_findSoon, A5, B1]
  rcases fhV_b (t := t) (a := a) (k := k) 31 0 with w | ⟨q, w1, w2, w3, w4⟩
  · obtain ⟨nB, rfl⟩ : ∃ n', nB = n' + 1 + 1 := ⟨nB - 2, by omega⟩
    refine ⟨gB, ?_, B3, fun q e => by omega⟩
    rw [w, e_X12_findSoon_196, if_pos (by decide), xg_pos ((B3 _ _ (by decide) (by decide) (by decide) (by decide)).trans p30), xg_pos (by omega), e_X12_findSoon_324, if_neg (by decide)]
  · have B4' := B4 q w1
    obtain ⟨nC, gC, C1, C2, C3, C4⟩ := bkh_l (k := k) (G := glV t a (dps t k q)) hW T0 ha (show q ≤ 30 by omega) q nB gB (Nat.le_refl _) (by omega) B3 (fun r r1 r2 c hc hr => (B4' _ (by omega)).trans (by
      have er : r = q := by omega
      subst er
      refine ⟨fun ⟨c2, v1, v2, v3, v4⟩ => (wiA_c _ _).mpr ⟨c, by omega, ?_, ?_⟩, fun v => ?_⟩
      · rw [show c = c2 by omega]; exact v3
      · rw [rw_0]; omega
      · obtain ⟨x, x1, x2, x3⟩ := (wiA_c _ _).mp v
        have := rw_z (show rwB (t 0) (c : Int) (x : Int) ≤ 0 by omega)
        exact ⟨c, hc, hr, by rw [show c = x by omega]; exact x2, rfl⟩)) (fun j hj => by
      by_cases y : gB 28 j = 0
      · exact y
      · obtain ⟨c2, v1, v2, v3, v4⟩ := (B4' j (by omega)).mp y
        omega)
    obtain ⟨gD, D1, D2, D3, D4⟩ := wyo_l (k := k) hW hh ha T0 (show q ≤ 30 by omega) w4 q 0 nC gC (by omega) (by omega) (B3.t (fun i j _ _ _ w => C3 i j w)) C4
    refine ⟨gD, ?_, D2, fun q2 e j hj => ?_⟩
    · rw [w1, C1]
      exact D1
    · rw [show q2 = q by omega]
      exact D4 j (Nat.zero_le _) (by omega)
/-- what soon answers -/
def soV (t : Nat → Int) (y z w : Int) : Int := if (0 ≤ y ∧ y < t 6) ∧ 0 ≤ z ∧ z < t 5 then (if w = 0 then fhV t y.toNat z.toNat 31 0 else if 10 ≤ w ∧ w ≤ 9 + fhV t y.toNat z.toNat 31 0 then sdV t y.toNat (glV t y.toNat (dps t z.toNat (fhV t y.toNat z.toNat 31 0).toNat)) (fhV t y.toNat z.toNat 31 0).toNat (w - 10).toNat else -1) else -1
theorem soR_e {m s : Nat} {y z w : Int} {t : Nat → Int} {g : yH} (hn : 40000 ≤ m) (hq : rQ g) (h4 : ∀ j, j < 12 → 0 ≤ g 4 j ∧ g 4 j ≤ 2) (hs : (s : Int) < g 4 0) (ht : ∀ j, j < 50 → g 5 (50 * s + j) = t j) (hW : tW0 t) (hh : wh0 t) : yR (f_X12_soon m [35, (s : Int), y, z, w] g) (fun v g2 => v = soV t y z w ∧ ∃ g1, lyR s t (zup g 35 0 0) g1 ∧ frS g1 g2) := by
  have w5 := hW.sl
  have w6 := hW.wd.2.2.2.2
  refine yR.e e_X12_soon ?_
  refine yR.b (layTold_e (by omega) (c0_q hq) (c0_4 h4) (by rw [zup_ne (by omega)]; exact hs) (fun j hj => by rw [zup_ne (by omega)]; exact ht j hj) hW) (fun v g1 ⟨rv, H⟩ => ?_)
  subst rv
  refine yR.f (by decide) ?_
  rw [isBoat_e H.1.1.2.2.2.2.2.2.1 hW, xb_some]
  unfold soV
  by_cases c : 0 ≤ y ∧ y < t 6
  · rw [if_pos c, if_neg (by decide), isThere_e H.1 hW, xb_some]
    by_cases c2 : 0 ≤ z ∧ z < t 5
    · obtain ⟨a, rfl⟩ : ∃ a : Nat, y = (a : Int) := ⟨y.toNat, by omega⟩
      obtain ⟨k, rfl⟩ : ∃ k : Nat, z = (k : Int) := ⟨z.toNat, by omega⟩
      obtain ⟨g2, f1, f2, f3⟩ := snR_e (n := m) hn hW H.1 hh c.2 c2.2
      have fb := fhV_b (t := t) (a := a) (k := k) 31 0
      have p54 : g2 35 54 = 26 := (f2 _ _ (by omega) (by omega) (by omega) (by omega)).trans (H.1.1.1.2.2.2.p (j := 54) (k := 26) (by decide))
      rw [if_pos c2, if_neg (by decide), f1, xb_some, if_pos (show (0 ≤ (a : Int) ∧ (a : Int) < t 6) ∧ 0 ≤ (k : Int) ∧ (k : Int) < t 5 from ⟨c, c2⟩), Int.toNat_natCast, Int.toNat_natCast]
      by_cases w0 : w = 0
      · rw [if_pos w0, if_pos w0]
        exact yR.s ⟨rfl, g1, H, f2⟩
      · rw [if_neg w0, if_neg w0, xg_pos (by rcases fb with fb | ⟨q, fb, -, q3, -⟩ <;> omega)]
        by_cases w1 : 10 ≤ w ∧ w ≤ 9 + fhV t a k 31 0
        · rcases fb with fb | ⟨q, fb, -, q3, -⟩
          · omega
          · have e := f3 q fb (w - 10).toNat (by omega)
            rw [in_t w1, xb_some, if_neg (by decide), if_pos w1, xg_pos p54, xg_pos (by omega), xg_pos (by omega), e, fb, Int.toNat_natCast]
            exact yR.s ⟨rfl, g1, H, f2⟩
        · rw [in_f w1, xb_some, if_pos rfl, if_neg w1]
          exact yR.s ⟨rfl, g1, H, f2⟩
    · rw [if_neg c2, if_pos rfl, if_neg (by exact fun q => c2 q.2)]
      exact yR.s ⟨rfl, g1, H, frS.r⟩
  · rw [if_neg c, if_pos rfl, if_neg (by exact fun q => c q.1)]
    exact yR.s ⟨rfl, g1, H, frS.r⟩
/-- the class: the hours -/
def frG (g0 g : yH) : Prop := ∀ i j, ¬ (i = 170 ∧ j = 6) → g i j = g0 i j
theorem few_l {b a k : Nat} {t : Nat → Int} {h : yH} (hb : b + 8 ≤ 170) (hW : tW0 t) (hh : wh0 t) (ha : (a : Int) < t 6) (hk : (k : Int) < t 5) (hS : cS b t h) (hp : cSp b h) (hc : cPc h) (h1 : ∀ c : Nat, (c : Int) < t 0 * t 1 → h 172 c = wvN t a (-1) (c : Int)) : ∀ (mm T n : Nat) (g : yH), mm + T = 31 → mm + 200 ≤ n → frG h g →
    ∃ h2, xl_X0_fewestHours n 19 [170, (b : Int), (a : Int), (k : Int), dps t k T, (T : Int)] g = some (fhV t a k mm T, h2) ∧ frG h h2 ∧ ∀ q : Nat, fhV t a k mm T = (q : Int) → ∀ c : Nat, (c : Int) < t 0 * t 1 → lbt (h2 170 6) c = glV t a (dps t k q) c := by
  have Mb := M_b hW
  have w5 := hW.sl
  have w6 := hW.wd.2.2.2.2
  have c1 := (hW.bt (b := a) (by omega)).1
  intro mm
  induction mm with
  | zero =>
    intro T n g e1 e2 F
    obtain ⟨n, rfl⟩ : ∃ n', n = n' + 1 := ⟨n - 1, by omega⟩
    have e : fhV t a k 0 T = -1 := rfl
    refine ⟨g, ?_, F, fun q w => by omega⟩
    rw [e_X0_fewestHours_19, if_pos (by omega), e]
  | succ mm ih =>
    intro T n g e1 e2 F
    obtain ⟨n, rfl⟩ : ∃ n', n = n' + 1 := ⟨n - 1, by omega⟩
    have e : fhV t a k (mm + 1) T = if wiA (t 0) (glV t a (dps t k T)) (t (31 + 3 * a)) (T : Int) (t 0 * t 1).toNat 0 = true then (T : Int) else fhV t a k mm (T + 1) := rfl
    have S1 : cS b t g := hS.fr (fun x j w1 w2 => F x j (by omega))
    have p1 : cSp b g := hp.fr (fun j _ => F b j (by omega))
    have k1 : cPc g := hc.fr (fun j _ _ => F 170 j (by omega))
    have db := dps_b hW hh hk T
    obtain ⟨gA, A1, A2, A3⟩ := goal_e (n := n) (p := dps t k T) (by omega) hb hW ha S1 p1 k1 (by omega) (fun c hc => (F _ _ (by omega)).trans (h1 c hc))
    have FA : frG h gA := fun i j w => (A2 i j w).trans (F i j w)
    have SA : cS b t gA := hS.fr (fun x j w1 w2 => FA x j (by omega))
    have pA : cSp b gA := hp.fr (fun j _ => FA b j (by omega))
    have GA : ∀ c : Nat, (c : Int) < t 0 * t 1 → lbt (gA 170 6) c = glV t a (dps t k T) c := fun c hc => by
      rw [A3 c (by omega), decide_eq_true (show c < (t 0 * t 1).toNat by omega), Bool.true_and]
    have wi := wi_e (n := n) (rows := (T : Int)) (fr := t (31 + 3 * a)) (by omega) hW SA c1 GA
    have ba := (SA.2.2.2.2.2.2.2.2.2.2 a ha).1
    have bk := (SA.2.2.2.2.2.2.2.2.2.1 k hk).2.2
    rw [e_X0_fewestHours_19, if_neg (by omega), A1, xb_some, Int.toNat_natCast, Int.toNat_natCast, Int.toNat_natCast, xg_pos pA.2.2.2.2.1, xg_pos (by omega), show ((b : Int) + 5).toNat = b + 5 by omega, ba, wi, xb_some, e]
    by_cases c : wiA (t 0) (glV t a (dps t k T)) (t (31 + 3 * a)) (T : Int) (t 0 * t 1).toNat 0 = true
    · have e0 : ∀ {p : Prop} [Decidable p], p → (if p then (1 : Int) else 0) = 1 := fun hp => if_pos hp
      rw [e0 c, if_neg (by decide), if_pos c]
      refine ⟨gA, rfl, FA, fun q w => ?_⟩
      rw [show q = T by omega]
      exact GA
    · have e0 : ∀ {p : Prop} [Decidable p], ¬ p → (if p then (1 : Int) else 0) = 0 := fun hp => if_neg hp
      obtain ⟨h2, f1, f2, f3⟩ := ih (T + 1) n gA (by omega) (by omega) FA
      rw [e0 c, if_pos rfl, xg_pos pA.2.2.2.1, xg_pos (by omega), show ((b : Int) + 4).toNat = b + 4 by omega, bk, drC_e SA.1 SA.2.1 hW.1 hW.2.1 db, xb_some, xg_pos (by omega), show (T : Int) + 1 = ((T + 1 : Nat) : Int) by omega, if_neg c]
      exact ⟨h2, f1, f2, f3⟩
theorem fewC_e {n b a k : Nat} {t : Nat → Int} {h : yH} (hn : 300 ≤ n) (hb : b + 8 ≤ 170) (hW : tW0 t) (hh : wh0 t) (ha : (a : Int) < t 6) (hk : (k : Int) < t 5) (hS : cS b t h) (hp : cSp b h) (hc : cPc h) :
    ∃ h2, f_X0_fewestHours n [170, (b : Int), (a : Int), (k : Int)] h = some (fhV t a k 31 0, h2) ∧ (∀ i j, i < 170 ∨ 174 ≤ i → h2 i j = h i j) ∧ cPc h2 ∧ ∀ q : Nat, fhV t a k 31 0 = (q : Int) → ∀ c : Nat, (c : Int) < t 0 * t 1 → lbt (h2 170 6) c = glV t a (dps t k q) c := by
  have Mb := M_b hW
  have w5 := hW.sl
  obtain ⟨hA, A1, A2, A3⟩ := look_e (n := n) (lo := -1) (of := 0) (by omega) hb hW ha (Or.inl rfl) (Or.inl rfl) hS hp hc
  have SA : cS b t hA := hS.fr (fun x j w1 w2 => A3 x j (by omega))
  have pA : cSp b hA := hp.fr (fun j _ => A3 b j (by omega))
  have cA : cPc hA := hc.fr (fun j _ _ => A3 170 j (by omega))
  obtain ⟨h2, f1, f2, f3⟩ := few_l hb hW hh ha hk SA pA cA (fun c hc => by
    have := (A2 c (by omega)).2
    rw [Nat.zero_add] at this
    exact this) 31 0 n hA rfl (by omega) (fun _ _ _ => rfl)
  refine ⟨h2, ?_, fun i j w => (f2 i j (by omega)).trans (A3 i j (by omega)), cA.fr (fun j _ _ => f2 170 j (by omega)), f3⟩
  have k0 := (SA.2.2.2.2.2.2.2.2.2.1 k hk).1
  rw [show ((0 : Nat) : Int) = 0 from rfl] at A1 f1
  rw [e_X0_fewestHours, A1, xb_some, Int.toNat_natCast, Int.toNat_natCast, xg_pos pA.2.1, xg_pos (by omega), show ((b : Int) + 2).toNat = b + 2 by omega, k0]
  exact f1
/-- the class: a row towards -/
theorem frwC_l {b : Nat} {c rows : Int} {t : Nat → Int} {h : yH} {G : Nat → Bool} (hW : tW0 t) (hS : cS b t h) (hc : 0 ≤ c ∧ c < t 0 * t 1) (hG : ∀ c : Nat, (c : Int) < t 0 * t 1 → lbt (h 170 6) c = G c) : ∀ (mm s n : Nat), mm + s = 4 → mm + 80 ≤ n → xl_X0_firstRowTowards n 3 [170, (b : Int), c, rows, (s : Int)] h = some (frA t G c rows mm s, h) := by
  have Mb := M_b hW
  intro mm
  induction mm with
  | zero =>
    intro s n e1 e2
    obtain ⟨n, rfl⟩ : ∃ n', n = n' + 1 := ⟨n - 1, by omega⟩
    rw [e_X0_firstRowTowards_3, if_neg (by omega)]
    rfl
  | succ mm ih =>
    intro s n e1 e2
    obtain ⟨n, rfl⟩ : ∃ n', n = n' + 1 := ⟨n - 1, by omega⟩
    have nx := ih (s + 1) n (by omega) (by omega)
    have b0 := besV_b (s := (s : Int)) hW.1 hW.2.1 hc
    rw [e_X0_firstRowTowards_3, if_pos (by omega), besC_e hS.1 hS.2.1 hW.1 hW.2.1 hc, xb_some, frA_s]
    by_cases y : besV (t 0) (t 1) c (s : Int) = -1
    · rw [if_pos y, xg_pos (by omega), show (s : Int) + 1 = ((s + 1 : Nat) : Int) by omega, nx, if_neg (by exact fun w => w.1 y)]
    · have b1 : 0 ≤ besV (t 0) (t 1) c (s : Int) ∧ besV (t 0) (t 1) c (s : Int) ≤ 63 := by omega
      rw [if_neg y, wi_e (by omega) hW hS b1 hG, xb_some]
      by_cases z : wiA (t 0) G (besV (t 0) (t 1) c (s : Int)) rows (t 0 * t 1).toNat 0 = true
      · have e0 : ∀ {p : Prop} [Decidable p], p → (if p then (1 : Int) else 0) = 1 := fun hp => if_pos hp
        rw [e0 z, if_neg (by decide), if_pos (by exact ⟨y, z⟩)]
      · have e0 : ∀ {p : Prop} [Decidable p], ¬ p → (if p then (1 : Int) else 0) = 0 := fun hp => if_neg hp
        rw [e0 z, if_pos rfl, xg_pos (by omega), show (s : Int) + 1 = ((s + 1 : Nat) : Int) by omega, nx, if_neg (by exact fun w => z w.2)]
theorem dihC_l {b a q : Nat} {t : Nat → Int} {h : yH} {G : Nat → Bool} (hW : tW0 t) (hh : wh0 t) (ha : (a : Int) < t 6) (hS : cS b t h) (hq : q ≤ 30) (h0 : wiA (t 0) G (t (31 + 3 * a)) (q : Int) (t 0 * t 1).toNat 0 = true) (hG : ∀ c : Nat, (c : Int) < t 0 * t 1 → lbt (h 170 6) c = G c) (A : Nat) (hA : A < q) : ∀ (mm T n : Nat) (y : Int), mm + T = A + 1 → mm + 100 ≤ n → (mm = 0 → y = sdV t a G q A) →
    xl_X0_doneInHour n 14 [170, (b : Int), (a : Int), (A : Int), (q : Int), clV t a G q T, y, (T : Int)] h = some (sdV t a G q A, h) := by
  intro mm
  induction mm with
  | zero =>
    intro T n y e1 e2 ey
    obtain ⟨n, rfl⟩ : ∃ n', n = n' + 1 := ⟨n - 1, by omega⟩
    rw [e_X0_doneInHour_14, if_pos (by omega), ey rfl]
  | succ mm ih =>
    intro T n y e1 e2 _
    obtain ⟨n, rfl⟩ : ∃ n', n = n' + 1 := ⟨n - 1, by omega⟩
    obtain ⟨i1, -, -⟩ := clV_i hW hh ha h0 T (by omega)
    have f := frwC_l (rows := ((q : Int) - (T : Int)) - 1) hW hS i1 hG 4 0 n rfl (by omega)
    rw [show ((0 : Nat) : Int) = 0 from rfl] at f
    have d := drC_e (n := n) (s := sdV t a G q T) hS.1 hS.2.1 hW.1 hW.2.1 i1
    have nx := ih (T + 1) n (sdV t a G q T) (by omega) (by omega) (fun e => by rw [show T = A by omega])
    rw [e_X0_doneInHour_14, if_neg (by omega), xg_pos (by omega), xg_pos (by omega), e_X0_firstRowTowards, f, xb_some]
    show xb (f_X6_drifted n [(b : Int), clV t a G q T, sdV t a G q T] h) _ = _
    rw [d, xb_some, xg_pos (by omega), show (T : Int) + 1 = ((T + 1 : Nat) : Int) by omega]
    exact nx
theorem dihC_e {n b a q A : Nat} {t : Nat → Int} {h : yH} {G : Nat → Bool} (hn : 300 ≤ n) (hW : tW0 t) (hh : wh0 t) (ha : (a : Int) < t 6) (hS : cS b t h) (hp : cSp b h) (hq : q ≤ 30) (h0 : wiA (t 0) G (t (31 + 3 * a)) (q : Int) (t 0 * t 1).toNat 0 = true) (hG : ∀ c : Nat, (c : Int) < t 0 * t 1 → lbt (h 170 6) c = G c) (hA : A < q) :
    f_X0_doneInHour n [170, (b : Int), (a : Int), (A : Int), (q : Int)] h = some (sdV t a G q A, h) := by
  have w6 := hW.wd.2.2.2.2
  have l := dihC_l hW hh ha hS hq h0 hG A hA (A + 1) 0 n 4 (by omega) (by omega) (fun e => by omega)
  have ba := (hS.2.2.2.2.2.2.2.2.2.2 a ha).1
  rw [e_X0_doneInHour, Int.toNat_natCast, Int.toNat_natCast, xg_pos hp.2.2.2.2.1, xg_pos (by omega), show ((b : Int) + 5).toNat = b + 5 by omega, ba]
  exact l
theorem chK.s {s : Nat} {t : Nat → Int} {h h2 g g1 g2 : yH} (R : RR True h g) (hL : lnI h) (hm : h 4 1 ≤ 600) (H : lyR s t (zup g 35 0 0) g1) (e : frS g1 g2) (c2 : cPc h2) (e2 : ∀ a j, a < 170 ∨ 174 ≤ a → h2 a j = h a j) : chK h g h2 g2 := by
  have R1 : RR True h g1 := (R.c0 hL hm).ly hL hm H
  have q2 : rQ g2 := H.1.1.1.2.2.2.fr (fun j _ => e _ _ (by omega) (by omega) (by omega) (by omega))
  refine ⟨(R1.gf hL hm q2.P (fun a j w => e a j (by omega) (by omega) (by omega) (by omega))).hf hL hm (fun a j w => e2 a j (by omega)), c2, e2, fun a j w1 w2 => by rw [e a j (by omega) (by omega) (by omega) (by omega), H.k7 a j w1 w2]⟩
theorem RR_soon {m n : Nat} {x y z w : Int} {h g : yH} (hn : 300 ≤ n) (hm2 : 40000 ≤ m) (hw : -2147483648 ≤ w ∧ w ≤ 2147483647) (R : RR True h g) (wh : WH g) (h15 : h 1 5 = 170) (hc : cPc h) (hL : lnI h) (hm : h 4 1 ≤ 600) (hq : rQ g) (h4 : ∀ j, j < 12 → 0 ≤ g 4 j ∧ g 4 j ≤ 2) : ∃ v h2 g2, f_X11_soon n [1, x, y, z, w] h = some (v, h2) ∧ f_X12_soon m [35, x, y, z, w] g = some (v, g2) ∧ chK h g h2 g2 := by
  have hP := R.1
  have n0 := R.n6 (j := 0) (by decide)
  have b0 := h4 0 (by decide)
  have p3 : h 1 0 = 3 := hP.p (by decide)
  by_cases c : 0 ≤ x ∧ x < g 4 0
  · obtain ⟨s, rfl⟩ : ∃ s : Nat, x = (s : Int) := ⟨x.toNat, by omega⟩
    obtain ⟨t, hS, hp, ht, hW⟩ := R.sea (s := s) (by omega) c.2
    have hh : wh0 t := wh.sea (by omega) c.2 ht
    have w5 := hW.sl
    have w6 := hW.wd.2.2.2.2
    obtain ⟨v, g2, e2, rv, g1, H, fr⟩ := soR_e (m := m) (y := y) (z := z) (w := w) hm2 hq h4 c.2 ht hW hh
    have cx : (0 ≤ (s : Int) ∧ (s : Int) < h 6 0) := by omega
    have ex : 20 + 10 * (s : Int) = ((20 + 10 * s : Nat) : Int) := by omega
    unfold soV at rv
    by_cases c1 : 0 ≤ y ∧ y < t 6
    · by_cases c2 : 0 ≤ z ∧ z < t 5
      · obtain ⟨a, rfl⟩ : ∃ a : Nat, y = (a : Int) := ⟨y.toNat, by omega⟩
        obtain ⟨k, rfl⟩ : ∃ k : Nat, z = (k : Int) := ⟨z.toNat, by omega⟩
        obtain ⟨h2, f1, f2, f3, f4⟩ := fewC_e (n := n) hn (show 20 + 10 * s + 8 ≤ 170 by omega) hW hh c1.2 c2.2 hS hp hc
        rw [if_pos (by exact ⟨c1, c2⟩), Int.toNat_natCast, Int.toNat_natCast] at rv
        refine ⟨v, h2, g2, ?_, e2, chK.s R hL hm H fr f3 f2⟩
        have k15 : h2 1 5 = 170 := (f2 _ _ (by omega)).trans h15
        rw [e_X11_soon, xg_pos p3, findSea_e hP (by omega), xb_some, if_pos cx, if_neg (by omega), xg_pos (by omega), ex, hasBoat_e hS, xb_some, if_pos c1, if_neg (by decide), xg_pos (by omega), hasShoal_e hS, xb_some, if_pos c2, if_neg (by decide), xg_pos h15, xg_pos (by omega), f1, xb_some]
        have fb := fhV_b (t := t) (a := a) (k := k) 31 0
        by_cases k0 : fhV t a k 31 0 = -1
        · rw [if_pos k0]
          rw [k0] at rv
          rw [k0, rv]
          by_cases y0 : w = 0
          · rw [if_pos y0]
          · rw [if_neg y0, if_neg (by omega)]
        · rw [if_neg k0]
          by_cases y0 : w = 0
          · rw [if_pos y0] at rv
            rw [if_pos y0, rv]
          · rw [if_neg y0] at rv
            rw [if_neg y0]
            rcases fb with fb | ⟨q, fb, q2, q3, q4⟩
            · exact absurd fb k0
            · by_cases y1 : w < 10
              · rw [if_neg (by omega)] at rv
                rw [if_pos y1, rv]
              · rw [if_neg y1, xg_pos (by omega)]
                by_cases y2 : w - 10 < fhV t a k 31 0
                · rw [if_pos (by omega), fb, Int.toNat_natCast] at rv
                  have S2 : cS (20 + 10 * s) t h2 := hS.fr (fun i j w1 w2 => f2 i j (by omega))
                  have p2 : cSp (20 + 10 * s) h2 := hp.fr (fun j _ => f2 _ j (by omega))
                  have dd := dihC_e (n := n) (A := (w - 10).toNat) hn hW hh c1.2 S2 p2 (show q ≤ 30 by omega) q4 (f4 q fb) (by omega)
                  rw [show (((w - 10).toNat : Nat) : Int) = w - 10 by omega] at dd
                  rw [if_pos y2, xg_pos k15, xg_pos (by omega), xg_pos (by omega), fb, dd, xb_some, rv]
                · rw [if_neg (by omega)] at rv
                  rw [if_neg y2, rv]
      · rw [if_neg (by exact fun q => c2 q.2)] at rv
        refine ⟨v, h, g2, ?_, e2, chK.s R hL hm H fr hc (fun _ _ _ => rfl)⟩
        rw [e_X11_soon, xg_pos p3, findSea_e hP (by omega), xb_some, if_pos cx, if_neg (by omega), xg_pos (by omega), ex, hasBoat_e hS, xb_some, if_pos c1, if_neg (by decide), xg_pos (by omega), hasShoal_e hS, xb_some, if_neg c2, if_pos rfl, rv]
    · rw [if_neg (by exact fun q => c1 q.1)] at rv
      refine ⟨v, h, g2, ?_, e2, chK.s R hL hm H fr hc (fun _ _ _ => rfl)⟩
      rw [e_X11_soon, xg_pos p3, findSea_e hP (by omega), xb_some, if_pos cx, if_neg (by omega), xg_pos (by omega), ex, hasBoat_e hS, xb_some, if_neg c1, if_pos rfl, rv]
  · refine ⟨-1, h, zup g 35 0 0, ?_, ?_, chK.n R hL hm hc⟩
    · rw [e_X11_soon, xg_pos p3, findSea_e hP (by omega), xb_some, if_neg (show ¬ (0 ≤ x ∧ x < h 6 0) by omega), if_pos (by decide)]
    · rw [e_X12_soon, layTold_n (c0_q hq) (c0_4 h4) (by rw [zup_ne (by omega)]; exact c), xb_some, if_pos rfl]
end
