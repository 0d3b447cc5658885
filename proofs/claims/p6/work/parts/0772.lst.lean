/-! laws of coasts; which shoals a boat could claim from a cell -/
def lawV (t : Nat → Int) (b w : Nat) : Int := t (7 + 4 * (t (33 + 3 * b)).toNat + w)
theorem lawOf_e {n s b w : Nat} {t : Nat → Int} {g : yH} (H : sH s t g) (hW : tW0 t) (hb : b < 6) (hw : w < 4) : f_X12_lawOf n [35, (b : Int), (w : Int)] g = some (lawV t b w, g) := by
  have q := hW.bt hb
  rw [e_X12_lawOf, xg_pos (by omega), xg_pos (by omega), xg_pos (by omega), of_e H (k := 33 + 3 * b) (by omega) (by omega), xb_some, xg_pos (by omega), xg_pos (by omega), xg_pos (by omega), of_e H (k := 7 + 4 * (t (33 + 3 * b)).toNat + w) (by omega) (by omega), xb_some]
  rfl
theorem lawC_e {n b a w : Nat} {t : Nat → Int} {h : yH} (hS : cS b t h) (hp : cSp b h) (hW : tW0 t) (ha : (a : Int) < t 6) (hw : w < 4) : f_X6_lawOf n [(b : Int), (a : Int), (w : Int)] h = some (lawV t a w, h) := by
  have w6 := hW.wd.2.2.2.2
  have q := hW.bt (b := a) (by omega)
  obtain ⟨a0, a1, a2, a3, a4, a5, a6, a7, a8, a9, a10⟩ := id hS
  have e1 : ((b : Int) + 7).toNat = b + 7 := by omega
  have e2 : ((b : Int) + 1).toNat = b + 1 := by omega
  rw [e_X6_lawOf, Int.toNat_natCast, Int.toNat_natCast, e1, e2, (a10 a ha).2.2, xg_pos hp.1, xg_pos hp.2.2.2.2.2.2, xg_pos (by omega), xg_pos (by omega), xg_pos (by omega), xg_pos (by omega), show (4 * t (33 + 3 * a) + (w : Int)).toNat = 4 * (t (33 + 3 * a)).toNat + w by omega, a8 _ (by omega)]
  unfold lawV
  rw [show 7 + (4 * (t (33 + 3 * a)).toNat + w) = 7 + 4 * (t (33 + 3 * a)).toNat + w by omega]
/-- near enough a shoal -/
def nr (t : Nat → Int) (b : Nat) (fr p : Int) : Bool := decide (cst (t 0) (t 2) (t 3) fr p ≤ lawV t b 2)
theorem nr_iff {t : Nat → Int} {b : Nat} {fr p : Int} : nr t b fr p = true ↔ cst (t 0) (t 2) (t 3) fr p ≤ lawV t b 2 := decide_eq_true_iff
def nst (t : Nat → Int) (b : Nat) (fr : Int) : Nat → Int
  | 0 => 0
  | k + 1 => if nr t b fr (t (19 + 3 * k)) = true then yari 8 (nst t b fr k) (yari 5 1 (k : Int)) else nst t b fr k
theorem nst_b {t : Nat → Int} {b : Nat} {fr : Int} : ∀ k, k ≤ 6 → (0 ≤ nst t b fr k ∧ nst t b fr k ≤ 63) ∧ ∀ j, j < 6 → (bt (nst t b fr k) j = true ↔ j < k ∧ nr t b fr (t (19 + 3 * j)) = true) := by
  intro k
  induction k with
  | zero =>
    intro _
    refine ⟨⟨Int.le_refl _, (by decide : (0 : Int) ≤ 63)⟩, fun j hj => ⟨fun w => ?_, fun w => by omega⟩⟩
    have : ∀ c : Fin 6, bt 0 c.val = false := by decide +kernel
    have := this ⟨j, hj⟩
    have w' : bt 0 j = true := w
    simp only at this
    rw [this] at w'
    cases w'
  | succ k ih =>
    intro hk
    obtain ⟨i1, i2⟩ := ih (by omega)
    obtain ⟨s1, s2, s3, s4⟩ := shF ⟨k, by omega⟩
    cases e : nr t b fr (t (19 + 3 * k)) with
    | false =>
      have e2 : nst t b fr (k + 1) = nst t b fr k := if_neg (by rw [e]; decide)
      rw [e2]
      refine ⟨i1, fun j hj => (i2 j hj).trans ⟨fun w => ⟨by omega, w.2⟩, fun w => ⟨?_, w.2⟩⟩⟩
      have : j ≠ k := fun q => by rw [q, e] at w; cases w.2
      omega
    | true =>
      have e2 : nst t b fr (k + 1) = yari 8 (nst t b fr k) (yari 5 1 (k : Int)) := if_pos e
      obtain ⟨o1, o2, o3, o4⟩ := or_b i1 s1
      rw [e2]
      refine ⟨o1, fun j hj => ?_⟩
      have s4' := s4 ⟨j, hj⟩
      simp only at s4'
      rw [o2 j hj, s4', Bool.or_eq_true, i2 j hj, decide_eq_true_iff]
      refine ⟨fun w => ?_, fun w => ?_⟩
      · rcases w with w | w
        · exact ⟨by omega, w.2⟩
        · rw [w]; exact ⟨Nat.lt_succ_self _, e⟩
      · by_cases q : j = k
        · exact Or.inr q
        · exact Or.inl ⟨by omega, w.2⟩
theorem tW0.sl {u : Nat → Int} (h : tW0 u) : 0 ≤ u 5 ∧ u 5 ≤ 4 := h.2.2.2.2.2.1
theorem tW0.sh {u : Nat → Int} (h : tW0 u) {k : Nat} (hk : k < 4) : (0 ≤ u (19 + 3 * k) ∧ u (19 + 3 * k) ≤ 63) ∧ (0 ≤ u (20 + 3 * k) ∧ u (20 + 3 * k) ≤ 99 ∧ ((k : Int) < u 5 → 1 ≤ u (20 + 3 * k))) ∧ 0 ≤ u (21 + 3 * k) ∧ u (21 + 3 * k) ≤ 4 := h.2.2.2.2.2.2.2.2.2.1 k hk
theorem near_l {b a : Nat} {fr : Int} {t : Nat → Int} {h : yH} (hS : cS b t h) (hp : cSp b h) (hW : tW0 t) (ha : (a : Int) < t 6) (hfr : 0 ≤ fr ∧ fr ≤ 63) : ∀ (m k n : Nat), 5 - k = m → (k : Int) ≤ t 5 → m ≤ n → xl_X6_nearShoals n 5 [(b : Int), (a : Int), fr, nst t a fr k, (k : Int)] h = some (nst t a fr (t 5).toNat, h) := by
  have w5 := hW.sl
  have d := hW.wd
  obtain ⟨a0, a1, a2, a3, a4, a5, a6, a7, a8, a9, a10⟩ := id hS
  intro m
  induction m with
  | zero => intro k n e1 e2; omega
  | succ m ih =>
    intro k n e1 e2 e3
    obtain ⟨n, rfl⟩ : ∃ n', n = n' + 1 := ⟨n - 1, by omega⟩
    rw [e_X6_nearShoals_5, Int.toNat_natCast, a5]
    by_cases c : (k : Int) < t 5
    · have nx := ih (k + 1) n (by omega) (by omega) (by omega)
      have sk := hW.sh (k := k) (by omega)
      have lw := lawC_e (n := n) (w := 2) hS hp hW ha (by decide)
      rw [show ((2 : Nat) : Int) = 2 from rfl] at lw
      have e2' : ((b : Int) + 2).toNat = b + 2 := by omega
      rw [if_pos c, xg_pos hp.2.1, xg_pos (by omega), e2', Int.toNat_natCast, (a9 k c).1, cost_e a0 a2 a3 d.1 d.2.2.2.1 hfr sk.1, xb_some, lw, xb_some]
      by_cases c2 : lawV t a 2 < cst (t 0) (t 2) (t 3) fr (t (19 + 3 * k))
      · have e : nst t a fr (k + 1) = nst t a fr k := if_neg (by rw [nr_iff]; omega)
        rw [e] at nx
        rw [if_pos c2, xg_pos (by omega), show (k : Int) + 1 = ((k + 1 : Nat) : Int) by omega]
        exact nx
      · have e : nst t a fr (k + 1) = yari 8 (nst t a fr k) (yari 5 1 (k : Int)) := if_pos (by rw [nr_iff]; omega)
        rw [e] at nx
        rw [if_neg c2, xg_pos (by omega), show (k : Int) + 1 = ((k + 1 : Nat) : Int) by omega]
        exact nx
    · rw [if_neg c, show (t 5).toNat = k by omega]
theorem near_e {n b a : Nat} {fr : Int} {t : Nat → Int} {h : yH} (hn : 5 ≤ n) (hS : cS b t h) (hp : cSp b h) (hW : tW0 t) (ha : (a : Int) < t 6) (hfr : 0 ≤ fr ∧ fr ≤ 63) : f_X6_nearShoals n [(b : Int), (a : Int), fr] h = some (nst t a fr (t 5).toNat, h) := by
  rw [e_X6_nearShoals]
  exact near_l hS hp hW ha hfr 5 0 n rfl hW.sl.1 hn
/-- with enough witnesses -/
def wit (t : Nat → Int) (b : Nat) (fr vo : Int) : Bool := decide (lawV t b 1 ≤ bcn (hst t fr vo b (t 6).toNat))
theorem wit_iff {t : Nat → Int} {b : Nat} {fr vo : Int} : wit t b fr vo = true ↔ lawV t b 1 ≤ bcn (hst t fr vo b (t 6).toNat) := decide_eq_true_iff
def lsA (t : Nat → Int) (b : Nat) (fr : Int) (ok : Bool) : Nat → Nat → Int
  | 0, _ => -1
  | m + 1, v => if (ok && wit t b fr (v : Int)) = true then (v : Int) else lsA t b fr ok m (v + 1)
theorem lsA_f {t : Nat → Int} {b : Nat} {fr : Int} : ∀ m v, lsA t b fr false m v = -1 := by
  intro m
  induction m with
  | zero => intro v; rfl
  | succ m ih =>
    intro v
    show (if (false && wit t b fr (v : Int)) = true then (v : Int) else lsA t b fr false m (v + 1)) = -1
    rw [Bool.false_and, if_neg (by decide), ih]
theorem voice_l {b a : Nat} {x3 fr : Int} {t : Nat → Int} {h : yH} (hS : cS b t h) (hp : cSp b h) (hW : tW0 t) (ha : (a : Int) < t 6) (hfr : 0 ≤ fr ∧ fr ≤ 63) : ∀ (m v n : Nat), m + v = 21 → m + 7 ≤ n → xl_X10_leastVoice n 27 [150, (b : Int), (a : Int), x3, fr, (v : Int)] h = some (lsA t a fr true m v, h) := by
  intro m
  induction m with
  | zero =>
    intro v n e1 e2
    obtain ⟨n, rfl⟩ : ∃ n', n = n' + 1 := ⟨n - 1, by omega⟩
    rw [e_X10_leastVoice_27, if_pos (by omega)]
    rfl
  | succ m ih =>
    intro v n e1 e2
    obtain ⟨n, rfl⟩ : ∃ n', n = n' + 1 := ⟨n - 1, by omega⟩
    have w6 := hW.wd.2.2.2.2
    have hb := hst_b (u := t) (fr := fr) (vo := (v : Int)) (a := a) (t 6).toNat (by omega)
    have lw := lawC_e (n := n) (w := 1) hS hp hW ha (by decide)
    rw [show ((1 : Nat) : Int) = 1 from rfl] at lw
    rw [e_X10_leastVoice_27, if_neg (by omega), Int.toNat_natCast, xg_pos hp.2.2.2.2.1, show (b : Int) + 5 = ((b + 5 : Nat) : Int) by omega, hearers_e (by omega) hS hW hfr, xb_some, bc_e hb, xb_some, lw, xb_some]
    show _ = some (if (true && wit t a fr (v : Int)) = true then (v : Int) else lsA t a fr true m (v + 1), h)
    rw [Bool.true_and]
    by_cases c : bcn (hst t fr (v : Int) a (t 6).toNat) < lawV t a 1
    · rw [if_pos c, if_neg (by rw [wit_iff]; omega), xg_pos (by omega), show (v : Int) + 1 = ((v + 1 : Nat) : Int) by omega, ih (v + 1) n (by omega) (by omega)]
    · rw [if_neg c, if_pos (by rw [wit_iff]; omega)]
/-- what least answers -/
def lstV (t : Nat → Int) (x y : Int) : Int := if (0 ≤ x ∧ x < t 6) ∧ 0 ≤ y ∧ y < t 5 then lsA t x.toNat (t (31 + 3 * x.toNat)) (nr t x.toNat (t (31 + 3 * x.toNat)) (t (19 + 3 * y.toNat))) 21 0 else -1
theorem leastC_e {n s : Nat} {x y : Int} {t : Nat → Int} {h : yH} (hn : 40 ≤ n) (hP : cP h) (hw : cPw h) (hb : h 6 0 ≤ 2) (hs : (s : Int) < h 6 0) (hS : cS (20 + 10 * s) t h) (hp : cSp (20 + 10 * s) h) (hW : tW0 t) : f_X11_least n [1, (s : Int), x, y] h = some (lstV t x y, h) := by
  have w5 := hW.sl
  have w6 := hW.wd.2.2.2.2
  rw [e_X11_least, xg_pos (hP.p (by decide)), findSea_e hP hb, xb_some, if_pos (show 0 ≤ (s : Int) ∧ (s : Int) < h 6 0 by omega), if_neg (by omega), xg_pos (by omega), show 20 + 10 * (s : Int) = ((20 + 10 * s : Nat) : Int) by omega, hasBoat_e hS, xb_some]
  unfold lstV
  by_cases c : 0 ≤ x ∧ x < t 6
  · obtain ⟨a, rfl⟩ : ∃ a : Nat, x = (a : Int) := ⟨x.toNat, by omega⟩
    rw [if_pos c, if_neg (by decide), xg_pos (by omega), hasShoal_e hS, xb_some]
    by_cases c2 : 0 ≤ y ∧ y < t 5
    · obtain ⟨k, rfl⟩ : ∃ k : Nat, y = (k : Int) := ⟨y.toNat, by omega⟩
      have wa := hW.bt (b := a) (by omega)
      have e5 : (((20 + 10 * s : Nat) : Int) + 5).toNat = 20 + 10 * s + 5 := by omega
      have nb := nst_b (t := t) (b := a) (fr := t (31 + 3 * a)) (t 5).toNat (by omega)
      have q := (bit_b nb.1).2 k (by omega)
      have q2 := nb.2 k (by omega)
      rw [if_pos c2, if_neg (by decide), xg_pos hw.1, xg_pos (by omega), if_pos ⟨c, c2⟩, Int.toNat_natCast, Int.toNat_natCast, e_X10_leastVoice, Int.toNat_natCast, Int.toNat_natCast, e5, xg_pos hp.2.2.2.2.1, xg_pos (by omega), (hS.2.2.2.2.2.2.2.2.2.2 a c.2).1, near_e (by omega) hS hp hW c.2 wa.1, xb_some]
      cases e : nr t a (t (31 + 3 * a)) (t (19 + 3 * k)) with
      | false =>
        have hb0 : ¬ (yari 7 (yari 6 (nst t a (t (31 + 3 * a)) (t 5).toNat) (k : Int)) 1 = 1) := fun w => by
          have := (q2.mp (q.mp w)).2
          rw [e] at this
          cases this
        rw [if_pos ((bit_01 _).resolve_right hb0), xb_some, lsA_f]
      | true =>
        have hb1 := q.mpr (q2.mpr ⟨by omega, e⟩)
        have v := voice_l (x3 := (k : Int)) hS hp hW c.2 wa.1 21 0 n rfl (by omega)
        rw [show ((0 : Nat) : Int) = 0 from rfl] at v
        rw [if_neg (by rw [hb1]; decide), v, xb_some]
    · rw [if_neg c2, if_pos rfl, if_neg (fun w => c2 w.2)]
  · rw [if_neg c, if_pos rfl, if_neg (fun w => c w.1)]
/-! the reference -/
theorem zup_id {g : yH} {a j : Nat} {x : Int} : zup (zup g a j x) a j (g a j) = g := by
  funext a' j'
  by_cases w : a' = a ∧ j' = j
  · rw [w.1, w.2, zup_at]
  · rw [zup_ne w, zup_ne w]
/-- a sea laid; boats may stand elsewhere or have another voice -/
def tst (s : Nat) (t u : Nat → Int) (g : yH) : Prop := hv s t u g ∧ g 35 34 = 0 ∧ g 35 35 = t 5 ∧ ∀ i, i < 6 → shV t i g
theorem isThere_e {n s : Nat} {x : Int} {t u : Nat → Int} {g : yH} (T : tst s t u g) (hW : tW0 t) : f_X12_isThere n [35, x] g = some (if 0 ≤ x ∧ x < t 5 then 1 else 0, g) := by
  have w5 := hW.sl
  obtain ⟨H, h34, h35, hs⟩ := T
  rw [e_X12_isThere, h35, xg_pos (by omega)]
  by_cases c : 0 ≤ x ∧ x < t 5
  · obtain ⟨k, rfl⟩ : ∃ k : Nat, x = (k : Int) := ⟨x.toNat, by omega⟩
    have e14 : v14 t k = t (20 + 3 * k) := if_pos c.2
    have sk := hW.sh (k := k) (by omega)
    rw [in_t (by omega), xb_some, if_neg (by decide), xg_pos (H.1.2.2.2.p (j := 37) (k := 14) (by decide)), xg_pos (by omega), Int.toNat_natCast, (hs k (by omega)).2.1, e14, if_pos (by omega), if_pos c]
  · rw [in_f (by omega), xb_some, if_pos rfl, if_neg c]
theorem lack_e {n s b k : Nat} {t u : Nat → Int} {g : yH} {heard p : Int} (hn : 17 ≤ n) (T : tst s t u g) (hWt : tW0 t) (hW : tW0 u) (hb : (b : Int) < u 6) (hk : k < 6) (hh : 0 ≤ heard ∧ heard ≤ 63) (hp : g 13 k = p) (hpb : 0 ≤ p ∧ p ≤ 63) : f_X12_lackOf n [35, (b : Int), (k : Int), lawV t b 0, heard] g = some (yari 8 (yari 8 0 (if bcn heard < lawV t b 1 then 2 else 0)) (if lawV t b 2 < cst (u 0) (u 2) (u 3) (u (31 + 3 * b)) p then 4 else 0), g) := by
  have d := hW.wd
  have wb := hW.bt (b := b) (by omega)
  obtain ⟨H, h34, h35, hs⟩ := T
  have P : ∀ {j : Nat} {kk : Int}, (j, kk) ∈ rQL → g 35 j = kk := fun hm => H.1.2.2.2.p hm
  have l0 := lawOf_e (n := n) (w := 0) H.1 hWt (show b < 6 by omega) (by decide)
  have l1 := lawOf_e (n := n) (w := 1) H.1 hWt (show b < 6 by omega) (by decide)
  have l2 := lawOf_e (n := n) (w := 2) H.1 hWt (show b < 6 by omega) (by decide)
  rw [show ((0 : Nat) : Int) = 0 from rfl] at l0
  rw [show ((1 : Nat) : Int) = 1 from rfl] at l1
  rw [show ((2 : Nat) : Int) = 2 from rfl] at l2
  rw [e_X12_lackOf, e_X12_holderNow, xg_pos (P (j := 41) (kk := 16) (by decide)), xg_pos (by omega), Int.toNat_natCast, (hs k hk).2.2.2.2.2, h34, if_pos (by decide), xb_some, if_pos rfl, e_X12_lackOf_23, ones_e hn hh, xb_some, l1, xb_some]
  have fin : ∀ y : Int, xq_X12_lackOf_47 n [35, (b : Int), (k : Int), lawV t b 0, heard, -1, 0, y, 0] g = some (yari 8 (yari 8 0 y) (if lawV t b 2 < cst (u 0) (u 2) (u 3) (u (31 + 3 * b)) p then 4 else 0), g) := by
    intro y
    rw [e_X12_lackOf_47, xg_pos (P (j := 30) (kk := 10) (by decide)), xg_pos (by omega), xg_pos (P (j := 36) (kk := 13) (by decide)), xg_pos (by omega), Int.toNat_natCast, Int.toNat_natCast, (H.2.2.2.2.2.2.2 b hb).1, hp, costOf_e (by omega) H.2.2.1 H.2.2.2.2.1 H.2.2.2.2.2.1 d.1 d.2.2.1 d.2.2.2.1 wb.1 hpb, xb_some, l2, xb_some]
    by_cases c : lawV t b 2 < cst (u 0) (u 2) (u 3) (u (31 + 3 * b)) p
    · rw [if_pos c, if_pos c, e_X12_lackOf_82, l0, xb_some, if_neg (Int.lt_irrefl _)]
    · rw [if_neg c, if_neg c, e_X12_lackOf_82, l0, xb_some, if_neg (Int.lt_irrefl _)]
  by_cases c : bcn heard < lawV t b 1
  · rw [if_pos c, if_pos c, fin]
  · rw [if_neg c, if_neg c, fin]
theorem tU_W {u : Nat → Int} {i : Nat} {x : Int} (h : tW0 u) (hi : ∃ b, b < 6 ∧ ((i = 31 + 3 * b ∧ 0 ≤ x ∧ x ≤ 63) ∨ (i = 32 + 3 * b ∧ 0 ≤ x ∧ x ≤ 20))) : tW0 (tU u i x) := by
  obtain ⟨b0, hb0, hi⟩ := hi
  obtain ⟨h0, h1, h2, h3, h4, h5, h6, h7, h8, h9, h10⟩ := h
  have ne : ∀ j, j < 31 ∨ j = 49 → tU u i x j = u j := fun j hj => tU_ne (by omega)
  refine ⟨?_, ?_, ?_, ?_, ?_, ?_, ?_, ?_, fun c hc => ?_, fun s hs => ?_, fun b hb => ?_⟩
  · rw [ne _ (by omega)]; exact h0
  · rw [ne _ (by omega)]; exact h1
  · rw [ne _ (by omega)]; exact h2
  · rw [ne _ (by omega)]; exact h3
  · rw [ne _ (by omega)]; exact h4
  · rw [ne _ (by omega)]; exact h5
  · rw [ne _ (by omega)]; exact h6
  · rw [ne _ (by omega)]; exact h7
  · rw [ne _ (by omega), ne _ (by omega), ne _ (by omega), ne _ (by omega)]; exact h8 c hc
  · rw [ne _ (by omega), ne _ (by omega), ne _ (by omega), ne _ (by omega)]; exact h9 s hs
  · obtain ⟨k1, k2, k3⟩ := h10 b hb
    refine ⟨?_, ?_, ?_⟩
    · by_cases q : 31 + 3 * b = i
      · rw [q, tU_at]; omega
      · rw [tU_ne q]; exact k1
    · by_cases q : 32 + 3 * b = i
      · rw [q, tU_at]; omega
      · rw [tU_ne q]; exact k2
    · rw [tU_ne (by omega)]; exact k3
theorem hv.cell {s b : Nat} {x : Int} {t u : Nat → Int} {g : yH} (H : hv s t u g) (hb : b < 6) : hv s t (tU u (31 + 3 * b) x) (zup g 10 b x) := by
  obtain ⟨k1, k2, k3, k4, k5, k6, k7, k8⟩ := H
  refine ⟨k1.fr (fun a j w => zup_ne (by omega)), ?_, ?_, ?_, ?_, ?_, ?_, fun i hi => ?_⟩
  · rw [tU_ne (by omega)]; exact k2
  · rw [tU_ne (by omega), zup_ne (by omega)]; exact k3
  · rw [tU_ne (by omega), zup_ne (by omega)]; exact k4
  · rw [tU_ne (by omega), zup_ne (by omega)]; exact k5
  · rw [tU_ne (by omega), zup_ne (by omega)]; exact k6
  · rw [tU_ne (by omega), zup_ne (by omega)]; exact k7
  · rw [tU_ne (by omega)] at hi
    obtain ⟨j1, j2⟩ := k8 i hi
    rw [zup_ne (show ¬ (11 = 10 ∧ i = b) by omega), tU_ne (show 32 + 3 * i ≠ 31 + 3 * b by omega)]
    refine ⟨?_, j2⟩
    by_cases q : i = b
    · rw [q, zup_at, tU_at]
    · rw [zup_ne (by omega), tU_ne (by omega)]
      exact j1
theorem hv.voice {s b : Nat} {x : Int} {t u : Nat → Int} {g : yH} (H : hv s t u g) (hb : b < 6) : hv s t (tU u (32 + 3 * b) x) (zup g 11 b x) := by
  obtain ⟨k1, k2, k3, k4, k5, k6, k7, k8⟩ := H
  refine ⟨k1.fr (fun a j w => zup_ne (by omega)), ?_, ?_, ?_, ?_, ?_, ?_, fun i hi => ?_⟩
  · rw [tU_ne (by omega)]; exact k2
  · rw [tU_ne (by omega), zup_ne (by omega)]; exact k3
  · rw [tU_ne (by omega), zup_ne (by omega)]; exact k4
  · rw [tU_ne (by omega), zup_ne (by omega)]; exact k5
  · rw [tU_ne (by omega), zup_ne (by omega)]; exact k6
  · rw [tU_ne (by omega), zup_ne (by omega)]; exact k7
  · rw [tU_ne (by omega)] at hi
    obtain ⟨j1, j2⟩ := k8 i hi
    rw [zup_ne (show ¬ (10 = 11 ∧ i = b) by omega), tU_ne (show 31 + 3 * i ≠ 32 + 3 * b by omega)]
    refine ⟨j1, ?_⟩
    by_cases q : i = b
    · rw [q, zup_at, tU_at]
    · rw [zup_ne (by omega), tU_ne (by omega)]
      exact j2
theorem tst.up {s b : Nat} {x : Int} {t u u2 : Nat → Int} {g : yH} {a : Nat} (T : tst s t u g) (ha : a = 10 ∨ a = 11) (H2 : hv s t u2 (zup g a b x)) : tst s t u2 (zup g a b x) := by
  obtain ⟨H, h34, h35, hs⟩ := T
  refine ⟨H2, by rw [zup_ne (by omega)]; exact h34, by rw [zup_ne (by omega)]; exact h35, fun i hi => ?_⟩
  obtain ⟨x1, x2, x3, x4, x5, x6⟩ := hs i hi
  exact ⟨by rw [zup_ne (by omega)]; exact x1, by rw [zup_ne (by omega)]; exact x2, by rw [zup_ne (by omega)]; exact x3, by rw [zup_ne (by omega)]; exact x4, by rw [zup_ne (by omega)]; exact x5, by rw [zup_ne (by omega)]; exact x6⟩
/-- could claim shoal k from cell x -/
def cld (t u : Nat → Int) (b : Nat) (x p : Int) : Bool := decide (cst (u 0) (u 2) (u 3) x p ≤ lawV t b 2) && decide (lawV t b 1 ≤ bcn (hst u x (u (32 + 3 * b)) b (u 6).toNat))
theorem hst_c {u u2 : Nat → Int} {fr vo : Int} {a : Nat} (h0 : u2 0 = u 0) (h2 : u2 2 = u 2) (h3 : u2 3 = u 3) (h49 : u2 49 = u 49) (hc : ∀ i, i < 6 → i ≠ a → u2 (31 + 3 * i) = u (31 + 3 * i)) : ∀ k, k ≤ 6 → hst u2 fr vo a k = hst u fr vo a k := by
  intro k
  induction k with
  | zero => intro _; rfl
  | succ k ih =>
    intro hk
    have e : hq u2 fr vo a k = hq u fr vo a k := by
      unfold hq
      by_cases q : k = a
      · rw [decide_eq_false (fun w => w q), Bool.false_and, Bool.false_and]
      · rw [h0, h2, h3, h49, hc k (by omega) q]
    show (if hq u2 fr vo a k = true then yari 8 (hst u2 fr vo a k) (yari 5 1 (k : Int)) else hst u2 fr vo a k) = (if hq u fr vo a k = true then yari 8 (hst u fr vo a k) (yari 5 1 (k : Int)) else hst u fr vo a k)
    rw [e, ih (by omega)]
theorem could_e {n s b k : Nat} {x p : Int} {t u : Nat → Int} {g : yH} (hn : 17 ≤ n) (T : tst s t u g) (hWt : tW0 t) (hW : tW0 u) (hb : (b : Int) < u 6) (hk : k < 6) (hx : 0 ≤ x ∧ x ≤ 63) (hp : g 13 k = p) (hpb : 0 ≤ p ∧ p ≤ 63) : f_X12_couldFrom n [35, (b : Int), x, (k : Int)] g = some (if cld t u b x p = true then 1 else 0, g) := by
  have d := hW.wd
  have wb := hW.bt (b := b) (by omega)
  have HX := T.1.cell (b := b) (x := x) (by omega)
  have TX := T.up (Or.inl rfl) HX
  have WX : tW0 (tU u (31 + 3 * b) x) := tU_W hW ⟨b, by omega, Or.inl ⟨rfl, hx⟩⟩
  have P : ∀ {j : Nat} {kk : Int}, (j, kk) ∈ rQL → g 35 j = kk := fun hm => T.1.1.2.2.2.p hm
  have PX : ∀ {j : Nat} {kk : Int}, (j, kk) ∈ rQL → (zup g 10 b x) 35 j = kk := fun hm => HX.1.2.2.2.p hm
  have hbX : (b : Int) < tU u (31 + 3 * b) x 6 := by rw [tU_ne (by omega)]; exact hb
  have l0 := lawOf_e (n := n) (w := 0) HX.1 hWt (show b < 6 by omega) (by decide)
  rw [show ((0 : Nat) : Int) = 0 from rfl] at l0
  have hh := hrs_b (a := b) WX
  have gb : g 10 b = u (31 + 3 * b) := (T.1.2.2.2.2.2.2.2 b hb).1
  have eh : hrs (tU u (31 + 3 * b) x) b = hst u x (u (32 + 3 * b)) b (u 6).toNat := by
    unfold hrs
    rw [tU_at, tU_ne (show 32 + 3 * b ≠ 31 + 3 * b by omega), tU_ne (show 6 ≠ 31 + 3 * b by omega)]
    exact hst_c (tU_ne (by omega)) (tU_ne (by omega)) (tU_ne (by omega)) (tU_ne (by omega)) (fun i _ q => tU_ne (by omega)) _ (by omega)
  have lk := lack_e hn TX hWt WX hbX hk hh (show (zup g 10 b x) 13 k = p by rw [zup_ne (by omega)]; exact hp) hpb
  rw [eh, tU_at, tU_ne (show 0 ≠ 31 + 3 * b by omega), tU_ne (show 2 ≠ 31 + 3 * b by omega), tU_ne (show 3 ≠ 31 + 3 * b by omega)] at lk
  have hO := hearersOf_e (n := n) (by omega) HX WX hbX
  rw [eh] at hO
  rw [e_X12_couldFrom, xg_pos (P (j := 30) (kk := 10) (by decide)), xg_pos (by omega), xg_pos (P (j := 30) (kk := 10) (by decide)), xg_pos (by omega), xg_pos hx, Int.toNat_natCast, l0, xb_some, hO, xb_some, lk, xb_some, gb]
  unfold cld
  have fin : (zup (zup g 10 b x) 10 b (u (31 + 3 * b))) = g := by rw [← gb]; exact zup_id
  by_cases c1 : bcn (hst u x (u (32 + 3 * b)) b (u 6).toNat) < lawV t b 1
  · rw [if_pos c1]
    have e : (decide (cst (u 0) (u 2) (u 3) x p ≤ lawV t b 2) && decide (lawV t b 1 ≤ bcn (hst u x (u (32 + 3 * b)) b (u 6).toNat))) = false := by
      rw [decide_eq_false (show ¬ (lawV t b 1 ≤ bcn (hst u x (u (32 + 3 * b)) b (u 6).toNat)) by omega), Bool.and_false]
    rw [e]
    by_cases c2 : lawV t b 2 < cst (u 0) (u 2) (u 3) x p
    · rw [if_pos c2, if_neg (by decide +kernel), xg_pos (PX (j := 30) (kk := 10) (by decide)), xg_pos (by omega), xg_pos wb.1, fin, if_neg (by decide)]
    · rw [if_neg c2, if_neg (by decide +kernel), xg_pos (PX (j := 30) (kk := 10) (by decide)), xg_pos (by omega), xg_pos wb.1, fin, if_neg (by decide)]
  · rw [if_neg c1]
    by_cases c2 : lawV t b 2 < cst (u 0) (u 2) (u 3) x p
    · have e : (decide (cst (u 0) (u 2) (u 3) x p ≤ lawV t b 2) && decide (lawV t b 1 ≤ bcn (hst u x (u (32 + 3 * b)) b (u 6).toNat))) = false := by
        rw [decide_eq_false (show ¬ (cst (u 0) (u 2) (u 3) x p ≤ lawV t b 2) by omega), Bool.false_and]
      rw [if_pos c2, if_neg (by decide +kernel), xg_pos (PX (j := 30) (kk := 10) (by decide)), xg_pos (by omega), xg_pos wb.1, fin, e, if_neg (by decide)]
    · have e : (decide (cst (u 0) (u 2) (u 3) x p ≤ lawV t b 2) && decide (lawV t b 1 ≤ bcn (hst u x (u (32 + 3 * b)) b (u 6).toNat))) = true := by
        rw [decide_eq_true (show cst (u 0) (u 2) (u 3) x p ≤ lawV t b 2 by omega), decide_eq_true (show lawV t b 1 ≤ bcn (hst u x (u (32 + 3 * b)) b (u 6).toNat) by omega)]
        rfl
      rw [if_neg c2, if_pos (by decide +kernel), xg_pos (PX (j := 30) (kk := 10) (by decide)), xg_pos (by omega), xg_pos wb.1, fin, e, if_pos rfl]
