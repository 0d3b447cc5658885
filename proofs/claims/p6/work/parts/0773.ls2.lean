/-! least: the reference -/
theorem zup_up {g : yH} {a j : Nat} {x y : Int} : zup (zup g a j x) a j y = zup g a j y := by
  funext a' j'
  by_cases w : a' = a ∧ j' = j
  · rw [w.1, w.2, zup_at, zup_at]
  · rw [zup_ne w, zup_ne w, zup_ne w]
theorem least_l {s b k : Nat} {x1 : Int} {t : Nat → Int} {g : yH} (T : tst s t t g) (hW : tW0 t) (hb : (b : Int) < t 6) (hk : (k : Int) < t 5) : ∀ (m v n : Nat) (x : Int), m + v = 21 → m + 17 ≤ n → 0 ≤ x ∧ x ≤ 20 →
    yR (xl_X12_least n 34 [35, x1, (b : Int), (k : Int), (v : Int)] (zup g 11 b x)) (fun r g2 => r = lsA t b (t (31 + 3 * b)) (nr t b (t (31 + 3 * b)) (t (19 + 3 * k))) m v ∧ ∀ a j, a ≠ 11 → g2 a j = g a j) := by
  have w5 := hW.sl
  have w6 := hW.wd.2.2.2.2
  have wb := hW.bt (b := b) (by omega)
  have sk := hW.sh (k := k) (by omega)
  intro m
  induction m with
  | zero =>
    intro v n x e1 e2 hx
    obtain ⟨n, rfl⟩ : ∃ n', n = n' + 1 := ⟨n - 1, by omega⟩
    rw [e_X12_least_34, if_pos (by omega)]
    exact yR.s ⟨rfl, fun a j w => zup_ne (by omega)⟩
  | succ m ih =>
    intro v n x e1 e2 hx
    obtain ⟨n, rfl⟩ : ∃ n', n = n' + 1 := ⟨n - 1, by omega⟩
    have P : ∀ {j : Nat} {kk : Int}, (j, kk) ∈ rQL → (zup g 11 b x) 35 j = kk := fun hm => by rw [zup_ne (by omega)]; exact T.1.1.2.2.2.p hm
    have TV : tst s t (tU t (32 + 3 * b) (v : Int)) (zup g 11 b (v : Int)) := T.up (Or.inr rfl) (T.1.voice (by omega))
    have WV : tW0 (tU t (32 + 3 * b) (v : Int)) := tU_W hW ⟨b, by omega, Or.inr ⟨rfl, by omega, by omega⟩⟩
    have hp : (zup g 11 b (v : Int)) 13 k = t (19 + 3 * k) := by
      rw [zup_ne (by omega), (T.2.2.2 k (by omega)).1]
      exact if_pos hk
    have cf := could_e (n := n) (x := t (31 + 3 * b)) (by omega) TV hW WV (show (b : Int) < tU t (32 + 3 * b) (v : Int) 6 by rw [tU_ne (by omega)]; exact hb) (show k < 6 by omega) wb.1 hp sk.1
    have gb : g 10 b = t (31 + 3 * b) := (T.1.2.2.2.2.2.2.2 b hb).1
    have ec : cld t (tU t (32 + 3 * b) (v : Int)) b (t (31 + 3 * b)) (t (19 + 3 * k)) = (nr t b (t (31 + 3 * b)) (t (19 + 3 * k)) && wit t b (t (31 + 3 * b)) (v : Int)) := by
      unfold cld nr wit
      rw [tU_at, tU_ne (show 0 ≠ 32 + 3 * b by omega), tU_ne (show 2 ≠ 32 + 3 * b by omega), tU_ne (show 3 ≠ 32 + 3 * b by omega), tU_ne (show 6 ≠ 32 + 3 * b by omega), hst_c (u := t) (u2 := tU t (32 + 3 * b) (v : Int)) (tU_ne (by omega)) (tU_ne (by omega)) (tU_ne (by omega)) (tU_ne (by omega)) (fun i _ q => tU_ne (by omega)) _ (by omega)]
    rw [e_X12_least_34, if_neg (by omega), xg_pos (P (j := 31) (kk := 11) (by decide)), xg_pos (by omega), xg_pos (P (j := 30) (kk := 10) (by decide)), xg_pos (by omega), Int.toNat_natCast, zup_ne (show ¬ (10 = 11 ∧ b = b) by omega), gb, zup_up, cf, xb_some, ec]
    show yR _ (fun r g2 => r = (if (nr t b (t (31 + 3 * b)) (t (19 + 3 * k)) && wit t b (t (31 + 3 * b)) (v : Int)) = true then (v : Int) else lsA t b (t (31 + 3 * b)) (nr t b (t (31 + 3 * b)) (t (19 + 3 * k))) m (v + 1)) ∧ ∀ a j, a ≠ 11 → g2 a j = g a j)
    cases (nr t b (t (31 + 3 * b)) (t (19 + 3 * k)) && wit t b (t (31 + 3 * b)) (v : Int)) with
    | false =>
      rw [if_pos (by decide), xg_pos (by omega), show (v : Int) + 1 = ((v + 1 : Nat) : Int) by omega, if_neg (by decide)]
      exact ih (v + 1) n _ (by omega) (by omega) (by omega)
    | true =>
      rw [if_neg (by decide), if_pos rfl]
      exact yR.s ⟨rfl, fun a j w => zup_ne (by omega)⟩
/-- laid as told: hand and begin together -/
def lyR (s : Nat) (t : Nat → Int) (g g2 : yH) : Prop := tst s t t g2 ∧ g2 35 49 = 0 ∧ (∀ i : Nat, (i : Int) < t 6 → g2 17 i = 0 ∧ g2 18 i = 0) ∧ ∀ a j, a ≤ 9 ∨ a = 12 ∨ (21 ≤ a ∧ a ≤ 34) → g2 a j = g a j
theorem layTold_e {n s : Nat} {t : Nat → Int} {g : yH} (hn : 20 ≤ n) (hq : rQ g) (h4 : ∀ j, j < 12 → 0 ≤ g 4 j ∧ g 4 j ≤ 2) (hs : (s : Int) < g 4 0) (ht : ∀ j, j < 50 → g 5 (50 * s + j) = t j) (hW : tW0 t) : yR (f_X12_layTold n [35, (s : Int)] g) (fun v g2 => v = 1 ∧ lyR s t g g2) := by
  refine yR.e e_X12_layTold ?_
  refine yR.b (hand_e (by omega) hq h4 hs ht hW) (fun v g1 ⟨rv, H⟩ => ?_)
  subst rv
  refine yR.f (by decide) ?_
  obtain ⟨g2, e2, b1, b2, b3, b4, b5, b6, b7⟩ := begR_e hn hW H.v H.2.1.2.2.2.2.1
  rw [e2, xb_some]
  refine yR.s ⟨rfl, ⟨b1, b2, b3, b5⟩, b4, b6, fun a j w => ?_⟩
  rw [b7 a j (by unfold bgK; omega) (by omega), H.2.2.2 a j (by omega) (by omega) (by omega)]
theorem layTold_n {n : Nat} {x : Int} {g : yH} (hq : rQ g) (h4 : ∀ j, j < 12 → 0 ≤ g 4 j ∧ g 4 j ≤ 2) (hs : ¬ (0 ≤ x ∧ x < g 4 0)) : f_X12_layTold n [35, x] g = some (0, g) := by
  rw [e_X12_layTold, hand_n hq h4 hs, xb_some, if_pos rfl]
theorem RR.ly {F : Prop} {s : Nat} {t : Nat → Int} {h g g2 : yH} (R : RR F h g) (hL : lnI h) (hm : h 4 1 ≤ 600) (H : lyR s t g g2) : RR F h g2 := R.gf hL hm H.1.1.1.2.2.2.P (fun a j w => H.2.2.2 a j (by omega))
theorem leastR_e {m s : Nat} {x y : Int} {t : Nat → Int} {g : yH} (hn : 60 ≤ m) (hq : rQ g) (h4 : ∀ j, j < 12 → 0 ≤ g 4 j ∧ g 4 j ≤ 2) (hs : (s : Int) < g 4 0) (ht : ∀ j, j < 50 → g 5 (50 * s + j) = t j) (hW : tW0 t) : yR (f_X12_least m [35, (s : Int), x, y] g) (fun v g2 => v = lstV t x y ∧ ∃ g1, lyR s t (zup g 35 0 0) g1 ∧ ∀ a j, a ≠ 11 → g2 a j = g1 a j) := by
  have w5 := hW.sl
  have w6 := hW.wd.2.2.2.2
  refine yR.e e_X12_least ?_
  refine yR.b (layTold_e (by omega) (c0_q hq) (c0_4 h4) (by rw [zup_ne (by omega)]; exact hs) (fun j hj => by rw [zup_ne (by omega)]; exact ht j hj) hW) (fun v g1 ⟨rv, H⟩ => ?_)
  subst rv
  refine yR.f (by decide) ?_
  rw [isBoat_e H.1.1.2.2.2.2.2.2.1 hW, xb_some]
  unfold lstV
  by_cases c : 0 ≤ x ∧ x < t 6
  · rw [if_pos c, if_neg (by decide), isThere_e H.1 hW, xb_some]
    by_cases c2 : 0 ≤ y ∧ y < t 5
    · obtain ⟨b, rfl⟩ : ∃ b : Nat, x = (b : Int) := ⟨x.toNat, by omega⟩
      obtain ⟨k, rfl⟩ : ∃ k : Nat, y = (k : Int) := ⟨y.toNat, by omega⟩
      rw [if_pos c2, if_neg (by decide), if_pos ⟨c, c2⟩, Int.toNat_natCast, Int.toNat_natCast]
      have gb : g1 11 b = t (32 + 3 * b) := (H.1.1.2.2.2.2.2.2.2 b c.2).2
      have wb := hW.bt (b := b) (by omega)
      have l := least_l (x1 := (s : Int)) H.1 hW c.2 c2.2 21 0 m (t (32 + 3 * b)) rfl (by omega) wb.2.1
      have e : zup g1 11 b (t (32 + 3 * b)) = g1 := by
        funext a j
        by_cases w : a = 11 ∧ j = b
        · rw [w.1, w.2, zup_at, gb]
        · rw [zup_ne w]
      rw [e] at l
      exact l.m (fun r g2 ⟨r1, r2⟩ => ⟨r1, g1, H, r2⟩)
    · rw [if_neg c2, if_pos rfl, if_neg (fun w => c2 w.2)]
      exact yR.s ⟨rfl, g1, H, fun _ _ _ => rfl⟩
  · rw [if_neg c, if_pos rfl, if_neg (fun w => c w.1)]
    exact yR.s ⟨rfl, g1, H, fun _ _ _ => rfl⟩
theorem RR_least {m n : Nat} {x k w : Int} {h g : yH} (hn : 40 ≤ n) (hm2 : 60 ≤ m) (R : RR True h g) (hw : cPw h) (hL : lnI h) (hm : h 4 1 ≤ 600) (hq : rQ g) (h4 : ∀ j, j < 12 → 0 ≤ g 4 j ∧ g 4 j ≤ 2) : ∃ v h2 g2, f_X11_least n [1, x, k, w] h = some (v, h2) ∧ f_X12_least m [35, x, k, w] g = some (v, g2) ∧ RR True h2 g2 ∧ ∀ a j, h2 a j = h a j := by
  have hP := R.1
  have n0 := R.n6 (j := 0) (by decide)
  have b0 := h4 0 (by decide)
  refine RR_ask (k := 0) (none' := -1) R hL hm hq h4 (fun c => ?_) (fun c => ?_) (fun s t e hs h6 h4' hW hS hp ht => ?_)
  · rw [e_X11_least, xg_pos (hP.p (by decide)), findSea_e hP (by omega), xb_some, if_neg c, if_pos (by decide)]
  · refine ⟨-1, zup g 35 0 0, ?_, rfl, R.c0 hL hm⟩
    rw [e_X12_least, layTold_n (c0_q hq) (c0_4 h4) (by rw [zup_ne (by omega)]; exact c), xb_some, if_pos rfl]
  · subst e
    obtain ⟨v, g2, e2, rv, g1, H, fr⟩ := leastR_e (m := m) (x := k) (y := w) hm2 hq h4 h4' ht hW
    subst rv
    have R1 : RR True h g1 := (R.c0 hL hm).ly hL hm H
    have q2 : rQ g2 := H.1.1.1.2.2.2.fr (fun j _ => fr _ _ (by omega))
    exact ⟨_, h, g2, leastC_e hn hP hw (by omega) h6 hS hp hW, e2, R1.gf hL hm q2.P (fun a j w => fr a j (by omega)), fun _ _ => rfl⟩
