/-! drifting; meet -/
def drV (W H p s : Int) : Int := if besV W H p s = -1 then p else besV W H p s
theorem drV_b {W H p s : Int} (hW : 2 ≤ W ∧ W ≤ 8) (hH : 2 ≤ H ∧ H ≤ 8) (hp : 0 ≤ p ∧ p < W * H) : 0 ≤ drV W H p s ∧ drV W H p s < W * H := by
  unfold drV
  by_cases c : besV W H p s = -1
  · rw [if_pos c]; exact hp
  · rw [if_neg c]
    rcases besV_b (s := s) hW hH hp with w | w
    · exact absurd w c
    · exact w
theorem besV_4 {W H p : Int} : besV W H p 4 = -1 := by
  unfold besV
  rw [if_neg (by decide), if_neg (by decide), if_neg (by decide), if_neg (by decide)]
theorem drV_4 {W H p : Int} : drV W H p 4 = p := by
  unfold drV
  rw [if_pos besV_4]
theorem drift_l {W H : Int} {S : Nat} {pos drv : Nat → Int} (hW : 2 ≤ W ∧ W ≤ 8) (hH : 2 ≤ H ∧ H ≤ 8) (hS : S ≤ 6) (hpos : ∀ i, i < S → 0 ≤ pos i ∧ pos i < W * H) (hdrv : ∀ i, i < S → 0 ≤ drv i ∧ drv i ≤ 4) : ∀ (m k n : Nat) (g : yH), k + m = S → m < n → rQ g → g 35 24 = W → g 35 25 = H → g 35 35 = (S : Int) → (∀ i, k ≤ i → i < S → g 13 i = pos i) → (∀ i, k ≤ i → i < S → g 15 i = drv i) →
    ∃ g2, xl_X12_driftAll n 2 [35, (k : Int)] g = some (0, g2) ∧ (∀ i, k ≤ i → i < S → g2 13 i = drV W H (pos i) (drv i)) ∧ ∀ a j, ¬ (a = 13 ∧ k ≤ j ∧ j < S) → g2 a j = g a j := by
  intro m
  induction m with
  | zero =>
    intro k n g e1 e2 hq h24 h25 h35 hp hd
    obtain ⟨n, rfl⟩ : ∃ n', n = n' + 1 := ⟨n - 1, by omega⟩
    refine ⟨g, ?_, fun i h1 h2 => by omega, fun _ _ _ => rfl⟩
    rw [e_X12_driftAll_2, h35, if_neg (by omega)]
  | succ m ih =>
    intro k n g e1 e2 hq h24 h25 h35 hp hd
    obtain ⟨n, rfl⟩ : ∃ n', n = n' + 1 := ⟨n - 1, by omega⟩
    have P : ∀ {j : Nat} {kk : Int}, (j, kk) ∈ rQL → g 35 j = kk := fun hm => hq.p hm
    have bp := hpos k (by omega)
    have bd := hdrv k (by omega)
    have key : xl_X12_driftAll (n + 1) 2 [35, (k : Int)] g = xl_X12_driftAll n 2 [35, ((k + 1 : Nat) : Int)] (zup g 13 k (drV W H (pos k) (drv k))) := by
      rw [e_X12_driftAll_2, h35, if_pos (by omega), xg_pos (P (j := 38) (kk := 15) (by decide)), xg_pos (by omega), Int.toNat_natCast, hd k (Nat.le_refl _) (by omega)]
      by_cases c4 : drv k = 4
      · rw [if_pos c4, e_X12_driftAll_40, xg_pos (P (j := 36) (kk := 13) (by decide)), if_pos rfl, xg_pos (P (j := 36) (kk := 13) (by decide)), xg_pos (by omega), xg_pos (by omega), xg_pos (by omega), Int.toNat_natCast, hp k (Nat.le_refl _) (by omega), c4, drV_4, show (k : Int) + 1 = ((k + 1 : Nat) : Int) by omega]
      · rw [if_neg c4, xg_pos (P (j := 36) (kk := 13) (by decide)), xg_pos (by omega), xg_pos (P (j := 38) (kk := 15) (by decide)), xg_pos (by omega), hp k (Nat.le_refl _) (by omega), besR_e h24 h25 hW hH bp (by omega), xb_some, e_X12_driftAll_40, xg_pos (P (j := 36) (kk := 13) (by decide))]
        unfold drV
        by_cases c : besV W H (pos k) (drv k) = -1
        · rw [if_pos c, if_pos c, xg_pos (P (j := 36) (kk := 13) (by decide)), xg_pos (by omega), xg_pos (by omega), xg_pos (by omega), Int.toNat_natCast, hp k (Nat.le_refl _) (by omega), show (k : Int) + 1 = ((k + 1 : Nat) : Int) by omega]
        · rw [if_neg c, if_neg c, xg_pos (by omega), xg_pos (by omega), Int.toNat_natCast, show (k : Int) + 1 = ((k + 1 : Nat) : Int) by omega]
    obtain ⟨g2, f1, f2, f3⟩ := ih (k + 1) n (zup g 13 k (drV W H (pos k) (drv k))) (by omega) (by omega) (hq.up (Or.inl (by decide))) (by rw [zup_ne (by omega)]; exact h24) (by rw [zup_ne (by omega)]; exact h25) (by rw [zup_ne (by omega)]; exact h35) (fun i h1 h2 => by rw [zup_ne (by omega)]; exact hp i (by omega) h2) (fun i h1 h2 => by rw [zup_ne (by omega)]; exact hd i (by omega) h2)
    refine ⟨g2, key.trans f1, fun i h1 h2 => ?_, fun a j w => by rw [f3 a j (by omega), zup_ne (by omega)]⟩
    by_cases q : i = k
    · rw [q, f3 13 k (by omega), zup_at]
    · exact f2 i (by omega) h2
theorem drift_e {n S : Nat} {W H : Int} {pos drv : Nat → Int} {g : yH} (hn : 7 ≤ n) (hW : 2 ≤ W ∧ W ≤ 8) (hH : 2 ≤ H ∧ H ≤ 8) (hS : S ≤ 6) (hpos : ∀ i, i < S → 0 ≤ pos i ∧ pos i < W * H) (hdrv : ∀ i, i < S → 0 ≤ drv i ∧ drv i ≤ 4) (hq : rQ g) (h24 : g 35 24 = W) (h25 : g 35 25 = H) (h35 : g 35 35 = (S : Int)) (hp : ∀ i, i < S → g 13 i = pos i) (hd : ∀ i, i < S → g 15 i = drv i) : ∃ g2, f_X12_driftAll n [35] g = some (0, g2) ∧ (∀ i, i < S → g2 13 i = drV W H (pos i) (drv i)) ∧ ∀ a j, ¬ (a = 13 ∧ j < S) → g2 a j = g a j := by
  rw [e_X12_driftAll]
  obtain ⟨g2, f1, f2, f3⟩ := drift_l hW hH hS hpos hdrv S 0 n g (by omega) (by omega) hq h24 h25 h35 (fun i _ h => hp i h) (fun i _ h => hd i h)
  exact ⟨g2, f1, fun i h => f2 i (Nat.zero_le _) h, fun a j w => f3 a j (by omega)⟩
/-- where shoal k is at an hour -/
def dps (t : Nat → Int) (k : Nat) : Nat → Int
  | 0 => t (19 + 3 * k)
  | n + 1 => drV (t 0) (t 1) (dps t k n) (t (21 + 3 * k))
theorem dps_b {t : Nat → Int} {k : Nat} (hW : tW0 t) (hh : wh0 t) (hk : (k : Int) < t 5) : ∀ n, 0 ≤ dps t k n ∧ dps t k n < t 0 * t 1 := by
  have w5 := hW.sl
  have sk := hW.sh (k := k) (by omega)
  intro n
  induction n with
  | zero => exact ⟨sk.1.1, hh.1 k (by omega) hk⟩
  | succ n ih => exact drV_b hW.1 hW.2.1 ih
def mtA (t : Nat → Int) (a b : Nat) : Nat → Nat → Int
  | 0, _ => -1
  | m + 1, v => if dps t a v = dps t b v then (v : Int) else mtA t a b m (v + 1)
theorem meetC_l {b a k : Nat} {x1 : Int} {t : Nat → Int} {h : yH} (hS : cS b t h) (hp : cSp b h) (hW : tW0 t) (hh : wh0 t) (ha : (a : Int) < t 5) (hk : (k : Int) < t 5) : ∀ (m v n : Nat), m + v = 61 → m < n → xl_X11_meet n 61 [1, x1, (a : Int), (k : Int), (b : Int), dps t a v, dps t k v, (v : Int)] h = some (mtA t a k m v, h) := by
  have w5 := hW.sl
  intro m
  induction m with
  | zero =>
    intro v n e1 e2
    obtain ⟨n, rfl⟩ : ∃ n', n = n' + 1 := ⟨n - 1, by omega⟩
    rw [e_X11_meet_61, if_pos (by omega)]
    rfl
  | succ m ih =>
    intro v n e1 e2
    obtain ⟨n, rfl⟩ : ∃ n', n = n' + 1 := ⟨n - 1, by omega⟩
    have e4 : ((b : Int) + 4).toNat = b + 4 := by omega
    rw [e_X11_meet_61, if_neg (by omega), Int.toNat_natCast, Int.toNat_natCast, Int.toNat_natCast, e4]
    show _ = some (if dps t a v = dps t k v then (v : Int) else mtA t a k m (v + 1), h)
    by_cases c : dps t a v = dps t k v
    · rw [if_pos c, if_pos c]
    · rw [if_neg c, if_neg c, xg_pos (by omega), xg_pos (by omega), xg_pos hp.2.2.2.1, xg_pos (by omega), (hS.2.2.2.2.2.2.2.2.2.1 a ha).2.2, drC_e hS.1 hS.2.1 hW.1 hW.2.1 (dps_b hW hh ha v), xb_some, xg_pos (by omega), xg_pos (by omega), xg_pos hp.2.2.2.1, xg_pos (by omega), (hS.2.2.2.2.2.2.2.2.2.1 k hk).2.2, drC_e hS.1 hS.2.1 hW.1 hW.2.1 (dps_b hW hh hk v), xb_some, xg_pos (by omega), show (v : Int) + 1 = ((v + 1 : Nat) : Int) by omega]
      exact ih (v + 1) n (by omega) (by omega)
/-- what meet answers -/
def metV (t : Nat → Int) (x y : Int) : Int := if x ≠ y ∧ (0 ≤ x ∧ x < t 5) ∧ 0 ≤ y ∧ y < t 5 then mtA t x.toNat y.toNat 61 0 else -1
theorem meetC_e {n s : Nat} {x y : Int} {t : Nat → Int} {h : yH} (hn : 70 ≤ n) (hP : cP h) (hb : h 6 0 ≤ 2) (hs : (s : Int) < h 6 0) (hS : cS (20 + 10 * s) t h) (hp : cSp (20 + 10 * s) h) (hW : tW0 t) (hh : wh0 t) : f_X11_meet n [1, (s : Int), x, y] h = some (metV t x y, h) := by
  have w5 := hW.sl
  rw [e_X11_meet, xg_pos (hP.p (by decide)), findSea_e hP hb, xb_some, if_pos (show 0 ≤ (s : Int) ∧ (s : Int) < h 6 0 by omega), if_neg (by omega)]
  unfold metV
  by_cases c0 : x = y
  · rw [if_pos c0, if_neg (fun w => w.1 c0)]
  rw [if_neg c0, xg_pos (by omega), show 20 + 10 * (s : Int) = ((20 + 10 * s : Nat) : Int) by omega, hasShoal_e hS, xb_some]
  by_cases c : 0 ≤ x ∧ x < t 5
  · rw [if_pos c, if_neg (by decide), xg_pos (by omega), hasShoal_e hS, xb_some]
    by_cases c2 : 0 ≤ y ∧ y < t 5
    · obtain ⟨a, rfl⟩ : ∃ a : Nat, x = (a : Int) := ⟨x.toNat, by omega⟩
      obtain ⟨k, rfl⟩ : ∃ k : Nat, y = (k : Int) := ⟨y.toNat, by omega⟩
      have e2 : (((20 + 10 * s : Nat) : Int) + 2).toNat = 20 + 10 * s + 2 := by omega
      have l := meetC_l (x1 := (s : Int)) hS hp hW hh c.2 c2.2 61 0 n rfl (by omega)
      rw [if_pos c2, if_neg (by decide), if_pos ⟨c0, c, c2⟩, xg_pos (by omega), Int.toNat_natCast, Int.toNat_natCast, Int.toNat_natCast, e2, xg_pos hp.2.1, xg_pos (by omega), xg_pos (by omega), xg_pos hp.2.1, xg_pos (by omega), (hS.2.2.2.2.2.2.2.2.2.1 a c.2).1, (hS.2.2.2.2.2.2.2.2.2.1 k c2.2).1]
      exact l
    · rw [if_neg c2, if_pos rfl, if_neg (fun w => c2 w.2.2)]
  · rw [if_neg c, if_pos rfl, if_neg (fun w => c w.2.1)]
theorem meetR_l {a k : Nat} {x1 : Int} {t : Nat → Int} (hW : tW0 t) (hh : wh0 t) (ha : (a : Int) < t 5) (hk : (k : Int) < t 5) : ∀ (m v n : Nat) (g : yH), m + v = 61 → m + 8 ≤ n → rQ g → g 35 24 = t 0 → g 35 25 = t 1 → g 35 35 = t 5 → (∀ i : Nat, (i : Int) < t 5 → g 13 i = dps t i v ∧ g 15 i = t (21 + 3 * i)) →
    yR (xl_X12_meet n 39 [35, x1, (a : Int), (k : Int), (v : Int)] g) (fun r g2 => r = mtA t a k m v ∧ ∀ a j, a ≠ 13 → g2 a j = g a j) := by
  have w5 := hW.sl
  intro m
  induction m with
  | zero =>
    intro v n g e1 e2 hq h24 h25 h35 hs
    obtain ⟨n, rfl⟩ : ∃ n', n = n' + 1 := ⟨n - 1, by omega⟩
    rw [e_X12_meet_39, if_pos (by omega)]
    exact yR.s ⟨rfl, fun _ _ _ => rfl⟩
  | succ m ih =>
    intro v n g e1 e2 hq h24 h25 h35 hs
    obtain ⟨n, rfl⟩ : ∃ n', n = n' + 1 := ⟨n - 1, by omega⟩
    rw [e_X12_meet_39, if_neg (by omega), xg_pos (hq.p (j := 36) (k := 13) (by decide)), xg_pos (by omega), xg_pos (hq.p (j := 36) (k := 13) (by decide)), xg_pos (by omega), Int.toNat_natCast, Int.toNat_natCast, (hs a ha).1, (hs k hk).1]
    show yR _ (fun r g2 => r = (if dps t a v = dps t k v then (v : Int) else mtA t a k m (v + 1)) ∧ ∀ a j, a ≠ 13 → g2 a j = g a j)
    by_cases c : dps t a v = dps t k v
    · rw [if_pos c, if_pos c]
      exact yR.s ⟨rfl, fun _ _ _ => rfl⟩
    · obtain ⟨g2, f1, f2, f3⟩ := drift_e (n := n) (S := (t 5).toNat) (g := g) (pos := fun i => dps t i v) (drv := fun i => t (21 + 3 * i)) (by omega) hW.1 hW.2.1 (by omega) (fun i hi => dps_b hW hh (by omega) v) (fun i hi => by have := hW.sh (k := i) (by omega); exact this.2.2) hq h24 h25 (by rw [h35]; omega) (fun i hi => (hs i (by omega)).1) (fun i hi => (hs i (by omega)).2)
      rw [if_neg c, if_neg c, f1, xb_some, xg_pos (by omega), show (v : Int) + 1 = ((v + 1 : Nat) : Int) by omega]
      exact (ih (v + 1) n g2 (by omega) (by omega) (hq.fr (fun j _ => f3 _ _ (by omega))) (by rw [f3 _ _ (by omega)]; exact h24) (by rw [f3 _ _ (by omega)]; exact h25) (by rw [f3 _ _ (by omega)]; exact h35) (fun i hi => ⟨f2 i (by omega), by rw [f3 _ _ (by omega)]; exact (hs i hi).2⟩)).m (fun r g3 ⟨r1, r2⟩ => ⟨r1, fun a j w => (r2 a j w).trans (f3 a j (by omega))⟩)
theorem meetR_e {m s : Nat} {x y : Int} {t : Nat → Int} {g : yH} (hn : 80 ≤ m) (hq : rQ g) (h4 : ∀ j, j < 12 → 0 ≤ g 4 j ∧ g 4 j ≤ 2) (hs : (s : Int) < g 4 0) (ht : ∀ j, j < 50 → g 5 (50 * s + j) = t j) (hW : tW0 t) (hh : wh0 t) : yR (f_X12_meet m [35, (s : Int), x, y] g) (fun v g2 => v = metV t x y ∧ ∃ g1, lyR s t (zup g 35 0 0) g1 ∧ ∀ a j, a ≠ 13 → g2 a j = g1 a j) := by
  have w5 := hW.sl
  refine yR.e e_X12_meet ?_
  refine yR.b (layTold_e (by omega) (c0_q hq) (c0_4 h4) (by rw [zup_ne (by omega)]; exact hs) (fun j hj => by rw [zup_ne (by omega)]; exact ht j hj) hW) (fun v g1 ⟨rv, H⟩ => ?_)
  subst rv
  refine yR.f (by decide) ?_
  rw [isThere_e H.1 hW, xb_some]
  unfold metV
  by_cases c : 0 ≤ x ∧ x < t 5
  · rw [if_pos c, if_neg (by decide), isThere_e H.1 hW, xb_some]
    by_cases c2 : 0 ≤ y ∧ y < t 5
    · rw [if_pos c2, if_neg (by decide)]
      by_cases c0 : x = y
      · rw [if_pos c0, if_neg (fun w => w.1 c0)]
        exact yR.s ⟨rfl, g1, H, fun _ _ _ => rfl⟩
      · obtain ⟨a, rfl⟩ : ∃ a : Nat, x = (a : Int) := ⟨x.toNat, by omega⟩
        obtain ⟨k, rfl⟩ : ∃ k : Nat, y = (k : Int) := ⟨y.toNat, by omega⟩
        rw [if_neg c0, if_pos ⟨c0, c, c2⟩, Int.toNat_natCast, Int.toNat_natCast]
        obtain ⟨T1, T2, T3, T4⟩ := id H.1
        have l := meetR_l (x1 := (s : Int)) hW hh c.2 c2.2 61 0 m g1 rfl (by omega) T1.1.2.2.2 T1.2.2.1 T1.2.2.2.1 T3 (fun i hi => by
          obtain ⟨x1, x2, x3, -⟩ := T4 i (by omega)
          exact ⟨x1.trans (if_pos hi), x3.trans (if_pos hi)⟩)
        exact l.m (fun r g2 ⟨r1, r2⟩ => ⟨r1, g1, H, r2⟩)
    · rw [if_neg c2, if_pos rfl, if_neg (fun w => c2 w.2.2)]
      exact yR.s ⟨rfl, g1, H, fun _ _ _ => rfl⟩
  · rw [if_neg c, if_pos rfl, if_neg (fun w => c w.2.1)]
    exact yR.s ⟨rfl, g1, H, fun _ _ _ => rfl⟩
