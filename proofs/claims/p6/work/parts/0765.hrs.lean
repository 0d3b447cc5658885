/-! who hears whom -/
def hq (u : Nat → Int) (fr vo : Int) (a i : Nat) : Bool := decide (i ≠ a) && (decide (yari 7 (yari 6 (u 49) (i : Int)) 1 = 0) && decide (cst (u 0) (u 2) (u 3) fr (u (31 + 3 * i)) ≤ vo))
theorem hq_t {u : Nat → Int} {fr vo : Int} {a i : Nat} (h1 : i ≠ a) (h2 : yari 7 (yari 6 (u 49) (i : Int)) 1 = 0) (h3 : cst (u 0) (u 2) (u 3) fr (u (31 + 3 * i)) ≤ vo) : hq u fr vo a i = true := by
  unfold hq
  rw [decide_eq_true h1, decide_eq_true h2, decide_eq_true h3]
  rfl
theorem hq_f {u : Nat → Int} {fr vo : Int} {a i : Nat} (h : ¬ (i ≠ a ∧ yari 7 (yari 6 (u 49) (i : Int)) 1 = 0 ∧ cst (u 0) (u 2) (u 3) fr (u (31 + 3 * i)) ≤ vo)) : hq u fr vo a i = false := by
  cases e : hq u fr vo a i with
  | false => rfl
  | true =>
    unfold hq at e
    simp only [Bool.and_eq_true, decide_eq_true_eq] at e
    exact absurd e h
def hst (u : Nat → Int) (fr vo : Int) (a : Nat) : Nat → Int
  | 0 => 0
  | k + 1 => if hq u fr vo a k = true then yari 8 (hst u fr vo a k) (yari 5 1 (k : Int)) else hst u fr vo a k
theorem hst_t {u : Nat → Int} {fr vo : Int} {a k : Nat} (h : hq u fr vo a k = true) : hst u fr vo a (k + 1) = yari 8 (hst u fr vo a k) (yari 5 1 (k : Int)) := if_pos h
theorem hst_f {u : Nat → Int} {fr vo : Int} {a k : Nat} (h : hq u fr vo a k = false) : hst u fr vo a (k + 1) = hst u fr vo a k := if_neg (by rw [h]; decide)
theorem hst_b {u : Nat → Int} {fr vo : Int} {a : Nat} : ∀ k, k ≤ 6 → 0 ≤ hst u fr vo a k ∧ hst u fr vo a k ≤ 63 := by
  intro k
  induction k with
  | zero => intro _; exact ⟨Int.le_refl _, (by decide : (0 : Int) ≤ 63)⟩
  | succ k ih =>
    intro hk
    have := ih (by omega)
    cases e : hq u fr vo a k with
    | false => rw [hst_f e]; exact this
    | true => rw [hst_t e]; exact or6 this (by omega)
/-- all who hear a -/
def hrs (u : Nat → Int) (a : Nat) : Int := hst u (u (31 + 3 * a)) (u (32 + 3 * a)) a (u 6).toNat
theorem hrs_b {u : Nat → Int} {a : Nat} (hW : tW0 u) : 0 ≤ hrs u a ∧ hrs u a ≤ 63 := hst_b _ (by have := hW.2.2.2.2.2.2.1; omega)
theorem tW0.wd {u : Nat → Int} (h : tW0 u) : (1 ≤ u 0 ∧ u 0 ≤ 8) ∧ (1 ≤ u 1 ∧ u 1 ≤ 8) ∧ (0 ≤ u 2 ∧ u 2 ≤ 3) ∧ (0 ≤ u 3 ∧ u 3 ≤ 3) ∧ 0 ≤ u 6 ∧ u 6 ≤ 6 := by
  obtain ⟨h0, h1, h2, h3, h4, h5, h6, -⟩ := h
  omega
theorem tW0.bt {u : Nat → Int} (h : tW0 u) {b : Nat} (hb : b < 6) : (0 ≤ u (31 + 3 * b) ∧ u (31 + 3 * b) ≤ 63) ∧ (0 ≤ u (32 + 3 * b) ∧ u (32 + 3 * b) ≤ 20) ∧ 0 ≤ u (33 + 3 * b) ∧ u (33 + 3 * b) ≤ 2 := h.2.2.2.2.2.2.2.2.2.2 b hb
theorem hearers_l {b a : Nat} {fr vo : Int} {u : Nat → Int} {h : yH} (hS : cS b u h) (hW : tW0 u) (hfr : 0 ≤ fr ∧ fr ≤ 63) : ∀ (m k n : Nat), 7 - k = m → (k : Int) ≤ u 6 → m ≤ n → xl_X6_hearers_t n 6 [(b : Int), (a : Int), fr, vo, ((b + 5 : Nat) : Int), hst u fr vo a k, (k : Int)] h = some (hst u fr vo a (u 6).toNat, h) := by
  obtain ⟨w0, w1, w2, w3, w6⟩ := hW.wd
  obtain ⟨a0, a1, a2, a3, a4, a5, a6, a7, a8, a9, a10⟩ := id hS
  intro m
  induction m with
  | zero => intro k n e1 e2; omega
  | succ m ih =>
    intro k n e1 e2 e3
    obtain ⟨n, rfl⟩ : ∃ n', n = n' + 1 := ⟨n - 1, by omega⟩
    rw [e_X6_hearers_t_6, Int.toNat_natCast, a6, a7]
    by_cases c : (k : Int) < u 6
    · have nx := ih (k + 1) n (by omega) (by omega) (by omega)
      have wb := hW.bt (b := k) (by omega)
      rw [if_pos c]
      by_cases c1 : (k : Int) = (a : Int)
      · rw [if_pos c1, e_X6_hearers_t_38, if_pos rfl, xg_pos (by omega), show (k : Int) + 1 = ((k + 1 : Nat) : Int) by omega]
        rw [hst_f (hq_f (fun q => q.1 (by omega)))] at nx
        exact nx
      · rw [if_neg c1]
        by_cases c2 : yari 7 (yari 6 (u 49) (k : Int)) 1 = 0
        · rw [if_pos c2, e_X6_hearers_t_38, if_neg (by decide), xg_pos (by omega), Int.toNat_natCast, Int.toNat_natCast, (a10 k c).1, cost_e a0 a2 a3 w0 w3 hfr wb.1, xb_some]
          by_cases c3 : vo < cst (u 0) (u 2) (u 3) fr (u (31 + 3 * k))
          · rw [if_pos c3, xg_pos (by omega), show (k : Int) + 1 = ((k + 1 : Nat) : Int) by omega]
            rw [hst_f (hq_f (fun q => by have := q.2.2; omega))] at nx
            exact nx
          · rw [if_neg c3, xg_pos (by omega), show (k : Int) + 1 = ((k + 1 : Nat) : Int) by omega]
            rw [hst_t (hq_t (fun q => c1 (by omega)) c2 (by omega))] at nx
            exact nx
        · rw [if_neg c2, e_X6_hearers_t_38, if_pos rfl, xg_pos (by omega), show (k : Int) + 1 = ((k + 1 : Nat) : Int) by omega]
          rw [hst_f (hq_f (fun q => c2 q.2.1))] at nx
          exact nx
    · rw [if_neg c, show (u 6).toNat = k by omega]
theorem hearers_e {b a n : Nat} {fr vo : Int} {u : Nat → Int} {h : yH} (hn : 7 ≤ n) (hS : cS b u h) (hW : tW0 u) (hfr : 0 ≤ fr ∧ fr ≤ 63) : f_X6_hearers_t n [(b : Int), (a : Int), fr, vo, ((b + 5 : Nat) : Int)] h = some (hst u fr vo a (u 6).toNat, h) := by
  rw [e_X6_hearers_t]
  exact hearers_l hS hW hfr 7 0 n rfl (hW.wd).2.2.2.2.1 hn
theorem asTold_e {b a n : Nat} {u : Nat → Int} {h : yH} (hn : 7 ≤ n) (hS : cS b u h) (hp : cSp b h) (hW : tW0 u) (ha : (a : Int) < u 6) : f_X6_hearersAsTold n [(b : Int), (a : Int)] h = some (hrs u a, h) := by
  have w := hW.wd
  have wb := hW.bt (b := a) (by omega)
  have q := hS.2.2.2.2.2.2.2.2.2.2 a ha
  rw [e_X6_hearersAsTold, Int.toNat_natCast, Int.toNat_natCast, show ((b : Int) + 5) = ((b + 5 : Nat) : Int) by omega, show ((b : Int) + 6) = ((b + 6 : Nat) : Int) by omega, Int.toNat_natCast, Int.toNat_natCast, xg_pos (by rw [hp.2.2.2.2.1]; omega), xg_pos (by omega), xg_pos (by rw [hp.2.2.2.2.2.1]; omega), xg_pos (by omega), xg_pos (by rw [hp.2.2.2.2.1]; omega), q.1, q.2.1, hearers_e hn hS hW wb.1, xb_some]
  rfl
/-! the reference: what it has in hand, maybe with another wind, another voice -/
def hv (s : Nat) (t u : Nat → Int) (g : yH) : Prop := sH s t g ∧ u 49 = t 49 ∧ g 35 24 = u 0 ∧ g 35 25 = u 1 ∧ g 35 26 = u 2 ∧ g 35 27 = u 3 ∧ g 35 28 = u 6 ∧ ∀ i : Nat, (i : Int) < u 6 → g 10 i = u (31 + 3 * i) ∧ g 11 i = u (32 + 3 * i)
theorem hdR.v {s : Nat} {t : Nat → Int} {g g2 : yH} (H : hdR s t g g2) : hv s t t g2 := ⟨H.1, rfl, H.2.1.1, H.2.1.2.1, H.2.1.2.2.1, H.2.1.2.2.2.1, H.2.1.2.2.2.2.2, H.2.2.1⟩
theorem hearsIt_e {n s a k : Nat} {t u : Nat → Int} {g : yH} (hn : 5 ≤ n) (H : hv s t u g) (hW : tW0 u) (ha : (a : Int) < u 6) (hk : (k : Int) < u 6) : f_X12_hearsIt n [35, (k : Int), (a : Int)] g = some (if hq u (u (31 + 3 * a)) (u (32 + 3 * a)) a k = true then 1 else 0, g) := by
  obtain ⟨h1, h49, p0, p1, p2, p3, p6, pb⟩ := id H
  obtain ⟨w0, w1, w2, w3, w6⟩ := hW.wd
  have wa := hW.bt (b := a) (by omega)
  have wk := hW.bt (b := k) (by omega)
  rw [e_X12_hearsIt]
  by_cases c1 : (a : Int) = (k : Int)
  · rw [if_pos c1, hq_f (fun q => q.1 (by omega))]
    rfl
  · rw [if_neg c1, of_e (x := 49) h1 (k := 49) rfl (by omega), xb_some, e_X12_isIn, ← h49]
    rcases bit_01 (yari 6 (u 49) (k : Int)) with e | e
    · rw [e, if_neg (by decide), xb_some, if_pos rfl, xg_pos (h1.2.2.2.p (j := 30) (k := 10) (by decide)), xg_pos (by omega), xg_pos (h1.2.2.2.p (j := 30) (k := 10) (by decide)), xg_pos (by omega), Int.toNat_natCast, Int.toNat_natCast, (pb a ha).1, (pb k hk).1, costOf_e hn p0 p2 p3 w0 w2 w3 wa.1 wk.1, xb_some, xg_pos (h1.2.2.2.p (j := 31) (k := 11) (by decide)), xg_pos (by omega), (pb a ha).2]
      by_cases c3 : u (32 + 3 * a) < cst (u 0) (u 2) (u 3) (u (31 + 3 * a)) (u (31 + 3 * k))
      · rw [if_pos c3, hq_f (fun q => by have := q.2.2; omega)]
        rfl
      · rw [if_neg c3, hq_t (fun q => c1 (by omega)) e (by omega)]
        rfl
    · rw [e, if_pos rfl, xb_some, if_neg (by decide), hq_f (fun q => by have := q.2.1; omega)]
      rfl
theorem hearersOf_l {s a : Nat} {t u : Nat → Int} {g : yH} (H : hv s t u g) (hW : tW0 u) (ha : (a : Int) < u 6) : ∀ (m k n : Nat), 7 - k = m → (k : Int) ≤ u 6 → m + 5 ≤ n → xl_X12_hearersOf n 4 [35, (a : Int), hst u (u (31 + 3 * a)) (u (32 + 3 * a)) a k, (k : Int)] g = some (hrs u a, g) := by
  obtain ⟨w0, w1, w2, w3, w6⟩ := hW.wd
  intro m
  induction m with
  | zero => intro k n e1 e2; omega
  | succ m ih =>
    intro k n e1 e2 e3
    obtain ⟨n, rfl⟩ : ∃ n', n = n' + 1 := ⟨n - 1, by omega⟩
    rw [e_X12_hearersOf_4, H.2.2.2.2.2.2.1]
    by_cases c : (k : Int) < u 6
    · have nx := ih (k + 1) n (by omega) (by omega) (by omega)
      have hb := hst_b (u := u) (fr := u (31 + 3 * a)) (vo := u (32 + 3 * a)) (a := a) k (by omega)
      rw [if_pos c, hearsIt_e (by omega) H hW ha c, xb_some]
      cases e : hq u (u (31 + 3 * a)) (u (32 + 3 * a)) a k with
      | false =>
        rw [if_pos (by decide), xg_pos (by omega), or0 hb, show (k : Int) + 1 = ((k + 1 : Nat) : Int) by omega]
        rw [hst_f e] at nx
        exact nx
      | true =>
        rw [if_neg (by decide), xg_pos (by omega), show (k : Int) + 1 = ((k + 1 : Nat) : Int) by omega]
        rw [hst_t e] at nx
        exact nx
    · rw [if_neg c]
      unfold hrs
      rw [show (u 6).toNat = k by omega]
theorem hearersOf_e {n s a : Nat} {t u : Nat → Int} {g : yH} (hn : 12 ≤ n) (H : hv s t u g) (hW : tW0 u) (ha : (a : Int) < u 6) : f_X12_hearersOf n [35, (a : Int)] g = some (hrs u a, g) := by
  rw [e_X12_hearersOf]
  exact hearersOf_l H hW ha 7 0 n rfl (hW.wd).2.2.2.2.1 hn
