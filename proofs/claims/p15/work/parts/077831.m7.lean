section
/-! where a boat had best be: fish of shoals together, looks from cells -/
def cPc (h : yH) : Prop := h 170 3 = 171 ∧ h 170 4 = 172 ∧ h 170 5 = 173
theorem cPc.fr {h h2 : yH} (p : cPc h) (e : ∀ j, 3 ≤ j → j ≤ 5 → h2 170 j = h 170 j) : cPc h2 := ⟨by rw [e _ (by omega) (by omega)]; exact p.1, by rw [e _ (by omega) (by omega)]; exact p.2.1, by rw [e _ (by omega) (by omega)]; exact p.2.2⟩
def fsT (t : Nat → Int) (x : Int) : Nat → Int
  | 0 => 0
  | k + 1 => fsT t x k + (if bt x k = true then t (20 + 3 * k) else 0)
def fsV (t : Nat → Int) (x : Int) : Int := fsT t x (t 5).toNat
theorem fsT_b {t : Nat → Int} {x : Int} (hW : tW0 t) : ∀ k, k ≤ 4 → 0 ≤ fsT t x k ∧ fsT t x k ≤ 99 * (k : Int) := by
  intro k
  induction k with
  | zero => intro _; exact ⟨Int.le_refl _, show (0 : Int) ≤ 99 * ((0 : Nat) : Int) by decide⟩
  | succ k ih =>
    intro hk
    have i1 := ih (by omega)
    have s := (hW.sh (k := k) (by omega)).2.1
    show 0 ≤ fsT t x k + (if bt x k = true then t (20 + 3 * k) else 0) ∧ fsT t x k + (if bt x k = true then t (20 + 3 * k) else 0) ≤ 99 * ((k + 1 : Nat) : Int)
    by_cases c : bt x k = true
    · rw [if_pos c]; omega
    · rw [if_neg c]; omega
theorem fsV_b {t : Nat → Int} {x : Int} (hW : tW0 t) : 0 ≤ fsV t x ∧ fsV t x ≤ 396 := by
  have w5 := hW.sl
  have := fsT_b (x := x) hW (t 5).toNat (by omega)
  unfold fsV
  omega
theorem fsT_0 {t : Nat → Int} : ∀ k, k ≤ 6 → fsT t 0 k = 0 := by
  intro k
  induction k with
  | zero => intro _; rfl
  | succ k ih =>
    intro hk
    have z : ∀ c : Fin 6, bt 0 c.val = false := by decide +kernel
    have := z ⟨k, by omega⟩
    simp only at this
    show fsT t 0 k + (if bt 0 k = true then t (20 + 3 * k) else 0) = 0
    rw [this, if_neg (by decide), ih (by omega), Int.add_zero]
theorem fsV_0 {t : Nat → Int} (hW : tW0 t) : fsV t 0 = 0 := fsT_0 _ (by have := hW.sl; omega)
theorem aft_in {b : Nat} {x : Int} {t : Nat → Int} {h : yH} (hS : cS b t h) (hp : cSp b h) (hW : tW0 t) (hx : 0 ≤ x ∧ x < 16) (p5 : h 170 5 = 173) : ∀ (mm k n : Nat), mm + k = (t 5).toNat → xl_X0_addFishTogether (n + mm + 1) 16 [170, (b : Int), x, fsT t x k, (k : Int)] h = xl_X0_addFishTogether n 2 [170, (b : Int), x + 1] (zup h 173 x.toNat (fsV t x)) := by
  have w5 := hW.sl
  obtain ⟨a0, a1, a2, a3, a4, a5, a6, a7, a8, a9, a10⟩ := id hS
  intro mm
  induction mm with
  | zero =>
    intro k n e1
    rw [e_X0_addFishTogether_16, Int.toNat_natCast, a5, if_neg (by omega), xg_pos p5, xg_pos (by omega), xg_pos (by omega)]
    unfold fsV
    rw [show (t 5).toNat = k by omega]
  | succ mm ih =>
    intro k n e1
    have nx := ih (k + 1) n (by omega)
    have st : fsT t x (k + 1) = fsT t x k + (if bt x k = true then t (20 + 3 * k) else 0) := rfl
    have b1 := fsT_b (x := x) hW k (by omega)
    have s := (hW.sh (k := k) (by omega)).2.1
    have qb := (bit_b (x := x) (by omega)).2 k (by omega)
    have e3 : ((b : Int) + 3).toNat = b + 3 := by omega
    have ey : yari 7 (yari 6 x (k : Int)) 1 * t (20 + 3 * k) = if bt x k = true then t (20 + 3 * k) else 0 := by
      by_cases c : bt x k = true
      · rw [if_pos c, qb.mpr c, Int.one_mul]
      · rw [if_neg c, (bit_01 _).resolve_right (fun w => c (qb.mp w)), Int.zero_mul]
    rw [st] at nx
    have b2 : 0 ≤ (if bt x k = true then t (20 + 3 * k) else 0) ∧ (if bt x k = true then t (20 + 3 * k) else 0) ≤ 99 := by
      by_cases c : bt x k = true
      · rw [if_pos c]; omega
      · rw [if_neg c]; omega
    rw [show n + (mm + 1) + 1 = (n + mm + 1) + 1 by omega, e_X0_addFishTogether_16, Int.toNat_natCast b, a5, if_pos (by omega), xg_pos hp.2.2.1, xg_pos (by omega), e3, Int.toNat_natCast k, (a9 k (by omega)).2.1, ey, xg_pos (by omega), xg_pos (by omega), xg_pos (by omega), show (k : Int) + 1 = ((k + 1 : Nat) : Int) by omega]
    exact nx
theorem aft_l {b : Nat} {t : Nat → Int} {h : yH} (hb : b + 8 ≤ 170) (hW : tW0 t) : ∀ (mm x n : Nat) (h1 : yH), mm + x = 16 → 6 * mm + 2 ≤ n → cS b t h1 → cSp b h1 → h1 170 5 = 173 → (∀ a j, a ≠ 173 → h1 a j = h a j) → (∀ j, j < x → h1 173 j = fsV t (j : Int)) →
    ∃ h2, xl_X0_addFishTogether n 2 [170, (b : Int), (x : Int)] h1 = some (0, h2) ∧ (∀ a j, a ≠ 173 → h2 a j = h a j) ∧ ∀ j, j < 16 → h2 173 j = fsV t (j : Int) := by
  have w5 := hW.sl
  intro mm
  induction mm with
  | zero =>
    intro x n h1 e1 e2 hS hp p5 fr hv
    obtain ⟨n, rfl⟩ : ∃ n', n = n' + 1 := ⟨n - 1, by omega⟩
    refine ⟨h1, ?_, fr, fun j hj => hv j (by omega)⟩
    rw [e_X0_addFishTogether_2, xg_pos p5, if_neg (by omega)]
  | succ mm ih =>
    intro x n h1 e1 e2 hS hp p5 fr hv
    obtain ⟨n, rfl⟩ : ∃ n', n = (n' + (t 5).toNat + 1) + 1 := ⟨n - (t 5).toNat - 2, by omega⟩
    have l := aft_in hS hp hW (x := (x : Int)) (by omega) p5 (t 5).toNat 0 n (by omega)
    rw [show ((0 : Nat) : Int) = 0 from rfl, show fsT t (x : Int) 0 = 0 from rfl, Int.toNat_natCast, show (x : Int) + 1 = ((x + 1 : Nat) : Int) by omega] at l
    have f1 : ∀ a j, a ≠ 173 → (zup h1 173 x (fsV t (x : Int))) a j = h1 a j := fun a j w => zup_ne (by omega)
    obtain ⟨h2, g1, g2, g3⟩ := ih (x + 1) n (zup h1 173 x (fsV t (x : Int))) (by omega) (by omega) (hS.fr (fun a j w1 w2 => f1 a j (by omega))) (hp.fr (fun j _ => f1 b j (by omega))) (by rw [f1 _ _ (by omega)]; exact p5) (fun a j w => (f1 a j w).trans (fr a j w)) (fun j hj => by
      by_cases q : j = x
      · rw [q, zup_at]
      · rw [zup_ne (by omega)]; exact hv j (by omega))
    refine ⟨h2, ?_, g2, g3⟩
    rw [e_X0_addFishTogether_2, xg_pos p5, if_pos (by omega), l]
    exact g1
/-- witnesses but for one -/
def wvN (t : Nat → Int) (a : Nat) (lo : Int) (x : Int) : Int := bcn (if lo = -1 then hst t x (t (32 + 3 * a)) a (t 6).toNat else clr (hst t x (t (32 + 3 * a)) a (t 6).toNat) lo.toNat)
theorem andm1F : ∀ x : Fin 64, yari 7 (x.val : Int) (-1) = (x.val : Int) := by decide +kernel
theorem andm1 {x : Int} (hx : 0 ≤ x ∧ x ≤ 63) : yari 7 x (-1) = x := by
  have := andm1F ⟨x.toNat, by omega⟩
  simp only at this
  rw [show ((x.toNat : Nat) : Int) = x by omega] at this
  exact this
theorem b15F : ∀ x : Fin 64, (∀ j : Fin 6, 4 ≤ j.val → bt (x.val : Int) j.val = false) → x.val ≤ 15 := by decide +kernel
theorem nst_15 {t : Nat → Int} {a : Nat} {fr : Int} (hW : tW0 t) : 0 ≤ nst t a fr (t 5).toNat ∧ nst t a fr (t 5).toNat ≤ 15 := by
  have w5 := hW.sl
  obtain ⟨n1, n2⟩ := nst_b (t := t) (b := a) (fr := fr) (t 5).toNat (by omega)
  refine ⟨n1.1, ?_⟩
  have q := b15F ⟨(nst t a fr (t 5).toNat).toNat, by omega⟩ (fun j hj => by
    simp only
    rw [show (((nst t a fr (t 5).toNat).toNat : Nat) : Int) = nst t a fr (t 5).toNat by omega]
    cases e : bt (nst t a fr (t 5).toNat) j.val with
    | false => rfl
    | true =>
      have := ((n2 j.val j.isLt).mp e).1
      omega)
  simp only at q
  omega
theorem cells_e {n b : Nat} {t : Nat → Int} {h : yH} (hS : cS b t h) (hW : tW0 t) : f_X6_cells n [(b : Int)] h = some (t 0 * t 1, h) := by
  have m1 := Int.mul_le_mul hW.1.2 hW.2.1.2 (by have := hW.2.1; omega) (by decide)
  have m0 := Int.mul_nonneg (show 0 ≤ t 0 by have := hW.1; omega) (show 0 ≤ t 1 by have := hW.2.1; omega)
  have e : (8 : Int) * 8 = 64 := by decide
  rw [eg_X6_cells, Int.toNat_natCast, hS.1, hS.2.1]
  generalize t 0 * t 1 = z at *
  rw [xg_pos (by omega)]
theorem M_b {t : Nat → Int} (hW : tW0 t) : 4 ≤ t 0 * t 1 ∧ t 0 * t 1 ≤ 64 := by
  have m1 := Int.mul_le_mul hW.1.2 hW.2.1.2 (by have := hW.2.1; omega) (by decide)
  have m0 := Int.mul_le_mul hW.1.1 hW.2.1.1 (by decide) (by have := hW.1; omega)
  have e : (8 : Int) * 8 = 64 := by decide
  have e2 : (2 : Int) * 2 = 4 := by decide
  omega
/-- what looks from cells leave: near shoals, witnesses -/
def lkI (t : Nat → Int) (a : Nat) (lo : Int) (of : Nat) (M : Nat) (h h2 : yH) : Prop := (∀ c : Nat, c < M → h2 171 (of + c) = nst t a (c : Int) (t 5).toNat ∧ h2 172 (of + c) = wvN t a lo (c : Int)) ∧ (∀ x j, ¬ ((x = 171 ∨ x = 172) ∧ of ≤ j ∧ j < of + M) → h2 x j = h x j)
theorem look_l {b a of : Nat} {lo x5 : Int} {t : Nat → Int} {h : yH} (hb : b + 8 ≤ 170) (hW : tW0 t) (ha : (a : Int) < t 6) (hof : of = 0 ∨ of = 64) (hlo : (lo = -1 ∧ x5 = -1) ∨ (0 ≤ lo ∧ lo < 6 ∧ x5 = yari 9 (yari 5 1 lo) (-1))) : ∀ (mm k n : Nat) (h1 : yH), (mm : Int) + k = t 0 * t 1 → mm + 9 ≤ n → cS b t h1 → cSp b h1 → cPc h1 → lkI t a lo of k h h1 →
    ∃ h2, xl_X0_lookFromCells n 27 [170, (b : Int), (a : Int), lo, (of : Int), x5, t (32 + 3 * a), (k : Int)] h1 = some (0, h2) ∧ lkI t a lo of (t 0 * t 1).toNat h h2 := by
  have Mb := M_b hW
  have w6 := hW.wd.2.2.2.2
  intro mm
  induction mm with
  | zero =>
    intro k n h1 e1 e2 hS hp hc I
    obtain ⟨n, rfl⟩ : ∃ n', n = n' + 1 := ⟨n - 1, by omega⟩
    refine ⟨h1, ?_, ?_⟩
    · rw [e_X0_lookFromCells_27, cells_e hS hW, xb_some, if_neg (by omega)]
    · rw [show (t 0 * t 1).toNat = k by omega]
      exact I
  | succ mm ih =>
    intro k n h1 e1 e2 hS hp hc I
    obtain ⟨n, rfl⟩ : ∃ n', n = n' + 1 := ⟨n - 1, by omega⟩
    have nb := nst_15 (t := t) (a := a) (fr := (k : Int)) hW
    have hb2 := hst_b (u := t) (fr := (k : Int)) (vo := t (32 + 3 * a)) (a := a) (t 6).toNat (by omega)
    have f1 : ∀ x j, ¬ (x = 171 ∧ j = of + k) → (zup h1 171 (of + k) (nst t a (k : Int) (t 5).toNat)) x j = h1 x j := fun x j w => zup_ne w
    have S1 : cS b t (zup h1 171 (of + k) (nst t a (k : Int) (t 5).toNat)) := hS.fr (fun x j w1 w2 => f1 x j (by omega))
    have p1 : cSp b (zup h1 171 (of + k) (nst t a (k : Int) (t 5).toNat)) := hp.fr (fun j _ => f1 b j (by omega))
    have ew : ∀ hh : yH, f_J6_bitCount_0f7a4 n [yari 7 (hst t (k : Int) (t (32 + 3 * a)) a (t 6).toNat) x5] hh = some (wvN t a lo (k : Int), hh) := fun hh => by
      unfold wvN
      rcases hlo with ⟨l1, l2⟩ | ⟨l1, l2, l3⟩
      · rw [l2, andm1 hb2, bc_e hb2, if_pos l1]
      · obtain ⟨w, ew⟩ : ∃ w : Nat, lo = (w : Int) := ⟨lo.toNat, by omega⟩
        rw [l3, ew, if_neg (by omega), Int.toNat_natCast]
        exact bc_e (clr_b hb2 (by omega)).1
    have f2 : ∀ x j, ¬ ((x = 171 ∨ x = 172) ∧ j = of + k) → (zup (zup h1 171 (of + k) (nst t a (k : Int) (t 5).toNat)) 172 (of + k) (wvN t a lo (k : Int))) x j = h1 x j := fun x j w => by rw [zup_ne (by omega), zup_ne (by omega)]
    obtain ⟨h2, g1, g2⟩ := ih (k + 1) n (zup (zup h1 171 (of + k) (nst t a (k : Int) (t 5).toNat)) 172 (of + k) (wvN t a lo (k : Int))) (by omega) (by omega) (hS.fr (fun x j w1 w2 => f2 x j (by omega))) (hp.fr (fun j _ => f2 b j (by omega))) (hc.fr (fun j w1 w2 => f2 170 j (by omega))) ⟨fun c hc2 => by
      by_cases q : c = k
      · rw [q, zup_ne (show ¬ (171 = 172 ∧ of + k = of + k) by omega), zup_at, zup_at]
        exact ⟨rfl, rfl⟩
      · rw [f2 _ _ (by omega), f2 _ _ (by omega)]
        exact I.1 c (by omega), fun x j w => by rw [f2 x j (by omega)]; exact I.2 x j (by omega)⟩
    refine ⟨h2, ?_, g2⟩
    have eo : ((of : Int) + (k : Int)).toNat = of + k := by omega
    rw [e_X0_lookFromCells_27, cells_e hS hW, xb_some, if_pos (by omega), xg_pos hc.1, xg_pos (by omega), near_e (by omega) hS hp hW ha (by omega), xb_some, xg_pos (by omega), xg_pos nb, eo, Int.toNat_natCast b, xg_pos p1.2.2.2.2.1, show (b : Int) + 5 = ((b + 5 : Nat) : Int) by omega, hearers_e (by omega) S1 hW (by omega), xb_some, xg_pos (by rw [f1 _ _ (by omega)]; exact hc.2.1), xg_pos (by omega), ew, xb_some, xg_pos (by omega), xg_pos (by omega), show (k : Int) + 1 = ((k + 1 : Nat) : Int) by omega]
    exact g1
theorem look_e {n b a of : Nat} {lo : Int} {t : Nat → Int} {h : yH} (hn : 80 ≤ n) (hb : b + 8 ≤ 170) (hW : tW0 t) (ha : (a : Int) < t 6) (hof : of = 0 ∨ of = 64) (hlo : lo = -1 ∨ (0 ≤ lo ∧ lo < 6)) (hS : cS b t h) (hp : cSp b h) (hc : cPc h) : ∃ h2, f_X0_lookFromCells n [170, (b : Int), (a : Int), lo, (of : Int)] h = some (0, h2) ∧ lkI t a lo of (t 0 * t 1).toNat h h2 := by
  have Mb := M_b hW
  have w6 := hW.wd.2.2.2.2
  have e6 : ((b : Int) + 6).toNat = b + 6 := by omega
  have v := (hS.2.2.2.2.2.2.2.2.2.2 a ha).2.1
  have I0 : lkI t a lo of 0 h h := ⟨fun c hc => by omega, fun _ _ _ => rfl⟩
  by_cases c : lo = -1
  · obtain ⟨h2, g1, g2⟩ := look_l (of := of) (x5 := -1) hb hW ha hof (Or.inl ⟨c, rfl⟩) (t 0 * t 1).toNat 0 n h (by omega) (by omega) hS hp hc I0
    refine ⟨h2, ?_, g2⟩
    rw [e_X0_lookFromCells, if_pos c, Int.toNat_natCast b, xg_pos hp.2.2.2.2.2.1, xg_pos (by omega), e6, Int.toNat_natCast a, v]
    exact g1
  · obtain ⟨h2, g1, g2⟩ := look_l (of := of) (x5 := yari 9 (yari 5 1 lo) (-1)) hb hW ha hof (Or.inr ⟨by omega, by omega, rfl⟩) (t 0 * t 1).toNat 0 n h (by omega) (by omega) hS hp hc I0
    refine ⟨h2, ?_, g2⟩
    rw [e_X0_lookFromCells, if_neg c, Int.toNat_natCast b, xg_pos hp.2.2.2.2.2.1, xg_pos (by omega), e6, Int.toNat_natCast a, v]
    exact g1
end
section
/-! berth: the best of all cells -/
def bsV (f : Nat → Int) : Nat → Int
  | 0 => -1
  | k + 1 => if bsV f k < f k then f k else bsV f k
def bsC (f : Nat → Int) (c0 : Int) : Nat → Int
  | 0 => c0
  | k + 1 => if bsV f k < f k then (k : Int) else bsC f c0 k
theorem bsC_i {f : Nat → Int} {c0 c1 : Int} (h : 0 ≤ f 0) : ∀ k, bsC f c0 (k + 1) = bsC f c1 (k + 1) := by
  intro k
  induction k with
  | zero =>
    show (if bsV f 0 < f 0 then ((0 : Nat) : Int) else bsC f c0 0) = (if bsV f 0 < f 0 then ((0 : Nat) : Int) else bsC f c1 0)
    have e : bsV f 0 < f 0 := by
      show (-1 : Int) < f 0
      omega
    rw [if_pos e, if_pos e]
  | succ k ih =>
    show (if bsV f (k + 1) < f (k + 1) then ((k + 1 : Nat) : Int) else bsC f c0 (k + 1)) = (if bsV f (k + 1) < f (k + 1) then ((k + 1 : Nat) : Int) else bsC f c1 (k + 1))
    rw [ih]
/-- fish that could be claimed from a cell -/
def fcV (t : Nat → Int) (a : Nat) (x : Int) : Int := if wit t a x (t (32 + 3 * a)) = true then fsV t (nst t a x (t 5).toNat) else 0
theorem fcV_b {t : Nat → Int} {a : Nat} {x : Int} (hW : tW0 t) : 0 ≤ fcV t a x ∧ fcV t a x ≤ 396 := by
  have := fsV_b (x := nst t a x (t 5).toNat) hW
  unfold fcV
  by_cases c : wit t a x (t (32 + 3 * a)) = true
  · rw [if_pos c]; exact this
  · rw [if_neg c]; omega
/-- what a search for the best cell leaves -/
def brE (f : Nat → Int) (c0 : Int) (k : Nat) (h h2 : yH) : Prop := (∀ x j, ¬ (x = 170 ∧ (j = 0 ∨ j = 2)) → h2 x j = h x j) ∧ h2 170 2 = bsV f k ∧ h2 170 0 = bsC f c0 k
theorem ber_l {b a : Nat} {c0 : Int} {t : Nat → Int} {h : yH} {f : Nat → Int} (hf : ∀ c : Nat, f c = fcV t a (c : Int)) (hb : b + 8 ≤ 170) (hW : tW0 t) (hS : cS b t h) (hc : cPc h) (h1 : ∀ c : Nat, (c : Int) < t 0 * t 1 → h 171 c = nst t a (c : Int) (t 5).toNat ∧ h 172 c = wvN t a (-1) (c : Int)) (h3 : ∀ j : Nat, j < 16 → h 173 j = fsV t (j : Int)) : ∀ (mm k n : Nat) (hh : yH), (mm : Int) + k = t 0 * t 1 → mm < n → brE f c0 k h hh →
    ∃ h2, xl_X0_findBerth n 28 [170, (b : Int), (a : Int), lawV t a 1, (k : Int)] hh = some (0, h2) ∧ brE f c0 (t 0 * t 1).toNat h h2 := by
  have Mb := M_b hW
  intro mm
  induction mm with
  | zero =>
    intro k n hh e1 e2 I
    obtain ⟨n, rfl⟩ : ∃ n', n = n' + 1 := ⟨n - 1, by omega⟩
    have S1 : cS b t hh := hS.fr (fun x j w1 w2 => I.1 x j (by omega))
    refine ⟨hh, ?_, ?_⟩
    · rw [e_X0_findBerth_28, cells_e S1 hW, xb_some, if_neg (by omega)]
    · rw [show (t 0 * t 1).toNat = k by omega]; exact I
  | succ mm ih =>
    intro k n hh e1 e2 I
    obtain ⟨n, rfl⟩ : ∃ n', n = n' + 1 := ⟨n - 1, by omega⟩
    obtain ⟨fr, v2, v0⟩ := id I
    have S1 : cS b t hh := hS.fr (fun x j w1 w2 => fr x j (by omega))
    have nb := nst_15 (t := t) (a := a) (fr := (k : Int)) hW
    obtain ⟨c1, c2⟩ := h1 k (by omega)
    have d2 : bsV f (k + 1) = if bsV f k < f k then f k else bsV f k := rfl
    have d0 : bsC f c0 (k + 1) = if bsV f k < f k then (k : Int) else bsC f c0 k := rfl
    have J : ∃ h2, xq_X0_findBerth_64 n (xl_X0_findBerth n) [170, (b : Int), (a : Int), lawV t a 1, (k : Int), f k] hh = some (0, h2) ∧ brE f c0 (t 0 * t 1).toNat h h2 := by
      by_cases c : bsV f k < f k
      · rw [if_pos c] at d2 d0
        obtain ⟨h2, g1, g2⟩ := ih (k + 1) n (zup (zup hh 170 2 (f k)) 170 0 (k : Int)) (by omega) (by omega) ⟨fun x j w => by rw [zup_ne (by omega), zup_ne (by omega)]; exact fr x j w, by rw [zup_ne (show ¬ (170 = 170 ∧ 2 = 0) by omega), zup_at, d2], by rw [zup_at, d0]⟩
        refine ⟨h2, ?_, g2⟩
        rw [e_X0_findBerth_64, v2, if_pos c, xg_pos (by omega), show (k : Int) + 1 = ((k + 1 : Nat) : Int) by omega]
        exact g1
      · rw [if_neg c] at d2 d0
        obtain ⟨h2, g1, g2⟩ := ih (k + 1) n hh (by omega) (by omega) ⟨fr, by rw [v2, d2], by rw [v0, d0]⟩
        refine ⟨h2, ?_, g2⟩
        rw [e_X0_findBerth_64, v2, if_neg c, xg_pos (by omega), show (k : Int) + 1 = ((k + 1 : Nat) : Int) by omega]
        exact g1
    obtain ⟨h2, J1, J2⟩ := J
    refine ⟨h2, ?_, J2⟩
    have ew : wvN t a (-1) (k : Int) = bcn (hst t (k : Int) (t (32 + 3 * a)) a (t 6).toNat) := congrArg bcn (if_pos rfl)
    have k172 : hh 172 k = bcn (hst t (k : Int) (t (32 + 3 * a)) a (t 6).toNat) := by rw [fr 172 k (by omega), c2, ew]
    have k171 : hh 171 k = nst t a (k : Int) (t 5).toNat := by rw [fr 171 k (by omega), c1]
    rw [e_X0_findBerth_28, cells_e S1 hW, xb_some, if_pos (by omega), xg_pos (by rw [fr 170 4 (by omega)]; exact hc.2.1), xg_pos (by omega), Int.toNat_natCast k, k172]
    by_cases c : bcn (hst t (k : Int) (t (32 + 3 * a)) a (t 6).toNat) < lawV t a 1
    · have e : f k = 0 := by
        rw [hf]
        exact if_neg (by rw [wit_iff]; omega)
      rw [e] at J1
      rw [if_pos c]
      exact J1
    · have e : f k = fsV t (nst t a (k : Int) (t 5).toNat) := by
        rw [hf]
        exact if_pos (by rw [wit_iff]; omega)
      have e3 := h3 (nst t a (k : Int) (t 5).toNat).toNat (by omega)
      rw [show (((nst t a (k : Int) (t 5).toNat).toNat : Nat) : Int) = nst t a (k : Int) (t 5).toNat by omega, ← fr 173 _ (by omega)] at e3
      rw [e] at J1
      rw [if_neg c, xg_pos (by rw [fr 170 5 (by omega)]; exact hc.2.2), xg_pos (by rw [fr 170 3 (by omega)]; exact hc.1), xg_pos (by omega), k171, xg_pos (by omega), e3]
      exact J1
theorem berC_e {n b a : Nat} {t : Nat → Int} {h : yH} {f : Nat → Int} (hf : ∀ c : Nat, f c = fcV t a (c : Int)) (hn : 200 ≤ n) (hb : b + 8 ≤ 170) (hW : tW0 t) (ha : (a : Int) < t 6) (hS : cS b t h) (hp : cSp b h) (hc : cPc h) : ∃ h2, f_X0_findBerth n [170, (b : Int), (a : Int)] h = some (0, h2) ∧ (∀ x j, x < 170 ∨ 174 ≤ x → h2 x j = h x j) ∧ cPc h2 ∧ h2 170 2 = bsV f (t 0 * t 1).toNat ∧ h2 170 0 = bsC f 0 (t 0 * t 1).toNat := by
  have Mb := M_b hW
  obtain ⟨hA, A1, A2, A3⟩ := aft_l (h := h) (by omega) hW 16 0 n h rfl (by omega) hS hp hc.2.2 (fun _ _ _ => rfl) (fun j hj => by omega)
  have SA : cS b t hA := hS.fr (fun x j w1 w2 => A2 x j (by omega))
  have pA : cSp b hA := hp.fr (fun j _ => A2 b j (by omega))
  have cA : cPc hA := hc.fr (fun j _ _ => A2 170 j (by omega))
  obtain ⟨hB, B1, B2, B3⟩ := look_e (n := n) (lo := -1) (of := 0) (by omega) hb hW ha (Or.inl rfl) (Or.inl rfl) SA pA cA
  have SB : cS b t hB := SA.fr (fun x j w1 w2 => B3 x j (by omega))
  have pB : cSp b hB := pA.fr (fun j _ => B3 b j (by omega))
  have cB : cPc hB := cA.fr (fun j _ _ => B3 170 j (by omega))
  have lw := lawC_e (n := n) (w := 1) SB pB hW ha (by decide)
  have u : ∀ x j, ¬ (x = 170 ∧ j = 2) → (zup hB 170 2 (-1)) x j = hB x j := fun x j w => zup_ne w
  obtain ⟨h2, g1, g2, g3, g4⟩ := ber_l (c0 := hB 170 0) (h := zup hB 170 2 (-1)) hf hb hW (SB.fr (fun x j w1 w2 => u x j (by omega))) (cB.fr (fun j w1 w2 => u 170 j (by omega))) (fun c q => by
    obtain ⟨q1, q2⟩ := B2 c (by omega)
    rw [Nat.zero_add] at q1 q2
    rw [u 171 c (by omega), u 172 c (by omega)]
    exact ⟨q1, q2⟩) (fun j hj => by rw [u 173 j (by omega), B3 173 j (by omega)]; exact A3 j hj) (t 0 * t 1).toNat 0 n (zup hB 170 2 (-1)) (by omega) (by omega) ⟨fun _ _ _ => rfl, zup_at _ _ _ _, u 170 0 (by omega)⟩
  have f0 : 0 ≤ f 0 := by
    rw [hf]
    exact (fcV_b hW).1
  have bi := bsC_i (c0 := hB 170 0) (c1 := 0) f0 ((t 0 * t 1).toNat - 1)
  rw [show (t 0 * t 1).toNat - 1 + 1 = (t 0 * t 1).toNat by omega] at bi
  refine ⟨h2, ?_, fun x j w => by rw [g2 x j (by omega), u x j (by omega), B3 x j (by omega), A2 x j (by omega)], cB.fr (fun j w1 w2 => by rw [g2 170 j (by omega), u 170 j (by omega)]), g3, g4.trans bi⟩
  rw [e_X0_findBerth, e_X0_addFishTogether]
  rw [show ((0 : Nat) : Int) = 0 from rfl] at A1 B1 g1
  rw [A1, xb_some, B1, xb_some]
  rw [show ((1 : Nat) : Int) = 1 from rfl] at lw
  rw [lw, xb_some]
  exact g1
end
section
/-! berth: the reference -/
theorem fsR_l {s : Nat} {x : Int} {t u : Nat → Int} {g : yH} (T : tst s t u g) (hW : tW0 t) (hx : 0 ≤ x ∧ x ≤ 63) : ∀ (mm k n : Nat), mm + k = (t 5).toNat → mm < n → xl_X12_fishOf n 4 [35, x, fsT t x k, (k : Int)] g = some (fsV t x, g) := by
  have w5 := hW.sl
  obtain ⟨H, h34, h35, hs⟩ := T
  intro mm
  induction mm with
  | zero =>
    intro k n e1 e2
    obtain ⟨n, rfl⟩ : ∃ n', n = n' + 1 := ⟨n - 1, by omega⟩
    unfold fsV
    rw [e_X12_fishOf_4, h35, if_neg (by omega), show (t 5).toNat = k by omega]
  | succ mm ih =>
    intro k n e1 e2
    obtain ⟨n, rfl⟩ : ∃ n', n = n' + 1 := ⟨n - 1, by omega⟩
    have nx := ih (k + 1) n (by omega) (by omega)
    have st : fsT t x (k + 1) = fsT t x k + (if bt x k = true then t (20 + 3 * k) else 0) := rfl
    have b1 := fsT_b (x := x) hW k (by omega)
    have s := (hW.sh (k := k) (by omega)).2.1
    have e14 : g 14 k = t (20 + 3 * k) := (hs k (by omega)).2.1.trans (if_pos (by omega))
    rw [e_X12_fishOf_4, h35, if_pos (by omega), isIn_e hx (by omega), xb_some]
    by_cases c : bt x k = true
    · have e : x / 2 ^ k % 2 = 1 := decide_eq_true_iff.mp c
      rw [st, if_pos c] at nx
      rw [e, if_neg (by decide), xg_pos (H.1.2.2.2.p (j := 37) (k := 14) (by decide)), xg_pos (by omega), Int.toNat_natCast k, e14, xg_pos (by omega), xg_pos (by omega), show (k : Int) + 1 = ((k + 1 : Nat) : Int) by omega]
      exact nx
    · have e : x / 2 ^ k % 2 = 0 := by
        have e1 : ¬ (x / 2 ^ k % 2 = 1) := fun w => c (decide_eq_true_iff.mpr w)
        generalize x / 2 ^ k = z at *
        omega
      rw [st, if_neg c] at nx
      rw [e, if_pos rfl, xg_pos (by omega), xg_pos (by omega), show (k : Int) + 1 = ((k + 1 : Nat) : Int) by omega]
      exact nx
theorem fsR_e {n s : Nat} {x : Int} {t u : Nat → Int} {g : yH} (hn : 6 ≤ n) (T : tst s t u g) (hW : tW0 t) (hx : 0 ≤ x ∧ x ≤ 63) : f_X12_fishOf n [35, x] g = some (fsV t x, g) := by
  have w5 := hW.sl
  rw [e_X12_fishOf]
  exact fsR_l T hW hx (t 5).toNat 0 n rfl (by omega)
theorem orZF : ∀ x : Fin 64, yari 8 (x.val : Int) 0 = (x.val : Int) := by decide +kernel
theorem orZ {x : Int} (hx : 0 ≤ x ∧ x ≤ 63) : yari 8 x 0 = x := by
  have := orZF ⟨x.toNat, by omega⟩
  simp only at this
  rw [show ((x.toNat : Nat) : Int) = x by omega] at this
  exact this
/-- the shoals a boat could claim where it stands, if heard by enough -/
def swV (t : Nat → Int) (b : Nat) (x : Int) (w : Bool) (k : Nat) : Int := if w = true then nst t b x k else 0
theorem swV_b {t : Nat → Int} {b : Nat} {x : Int} {w : Bool} {k : Nat} (hk : k ≤ 6) : 0 ≤ swV t b x w k ∧ swV t b x w k ≤ 63 := by
  unfold swV
  cases w with
  | false => rw [if_neg (by decide)]; exact ⟨by decide, by decide⟩
  | true => rw [if_pos rfl]; exact (nst_b k hk).1
theorem swV_s {t : Nat → Int} {b : Nat} {x : Int} {w : Bool} {k : Nat} (hk : k < 6) : swV t b x w (k + 1) = if (nr t b x (t (19 + 3 * k)) && w) = true then yari 8 (swV t b x w k) (yari 5 1 (k : Int)) else yari 8 (swV t b x w k) 0 := by
  have b0 := swV_b (t := t) (b := b) (x := x) (w := w) (k := k) (by omega)
  rw [orZ b0]
  unfold swV
  cases w with
  | false =>
    rw [Bool.and_false]
    rfl
  | true => rw [if_pos rfl, if_pos rfl, Bool.and_true]; rfl
theorem sfR_l {s b : Nat} {x : Int} {w : Bool} {t u : Nat → Int} {g : yH} (T : tst s t u g) (hWt : tW0 t) (hW : tW0 u) (hb : (b : Int) < u 6) (hx : 0 ≤ x ∧ x ≤ 63) (gx : g 10 b = x) (hu : ∀ k : Nat, cld t u b x (t (19 + 3 * k)) = (nr t b x (t (19 + 3 * k)) && w)) : ∀ (mm k n : Nat), mm + k = (t 5).toNat → mm + 18 ≤ n → xl_X12_shoalsFrom n 4 [35, (b : Int), swV t b x w k, (k : Int)] g = some (swV t b x w (t 5).toNat, g) := by
  have w5 := hWt.sl
  have w6 := hW.wd.2.2.2.2
  intro mm
  induction mm with
  | zero =>
    intro k n e1 e2
    obtain ⟨n, rfl⟩ : ∃ n', n = n' + 1 := ⟨n - 1, by omega⟩
    rw [e_X12_shoalsFrom_4, T.2.2.1, if_neg (by omega), show (t 5).toNat = k by omega]
  | succ mm ih =>
    intro k n e1 e2
    obtain ⟨n, rfl⟩ : ∃ n', n = n' + 1 := ⟨n - 1, by omega⟩
    have nx := ih (k + 1) n (by omega) (by omega)
    have e13 : g 13 k = t (19 + 3 * k) := (T.2.2.2 k (by omega)).1.trans (if_pos (by omega))
    have cf := could_e (n := n) (x := x) (by omega) T hWt hW hb (show k < 6 by omega) hx e13 (hWt.sh (k := k) (by omega)).1
    rw [hu k] at cf
    rw [swV_s (by omega)] at nx
    rw [e_X12_shoalsFrom_4, T.2.2.1, if_pos (by omega), xg_pos (T.1.1.2.2.2.p (j := 30) (k := 10) (by decide)), xg_pos (by omega), Int.toNat_natCast b, gx, cf, xb_some]
    by_cases c : (nr t b x (t (19 + 3 * k)) && w) = true
    · rw [if_pos c] at nx
      rw [if_pos c, if_neg (by decide), xg_pos (by omega), show (k : Int) + 1 = ((k + 1 : Nat) : Int) by omega]
      exact nx
    · rw [if_neg c] at nx
      rw [if_neg c, if_pos rfl, xg_pos (by omega), show (k : Int) + 1 = ((k + 1 : Nat) : Int) by omega]
      exact nx
theorem sfR_e {n s b : Nat} {x : Int} {w : Bool} {t u : Nat → Int} {g : yH} (hn : 24 ≤ n) (T : tst s t u g) (hWt : tW0 t) (hW : tW0 u) (hb : (b : Int) < u 6) (hx : 0 ≤ x ∧ x ≤ 63) (gx : g 10 b = x) (hu : ∀ k : Nat, cld t u b x (t (19 + 3 * k)) = (nr t b x (t (19 + 3 * k)) && w)) : f_X12_shoalsFrom n [35, (b : Int)] g = some (swV t b x w (t 5).toNat, g) := by
  have w5 := hWt.sl
  have e0 : swV t b x w 0 = 0 := by
    unfold swV
    cases w with
    | false => exact if_neg (by decide)
    | true => exact if_pos rfl
  have l := sfR_l T hWt hW hb hx gx hu (t 5).toNat 0 n (by omega) (by omega)
  rw [e0] at l
  rw [e_X12_shoalsFrom]
  exact l
theorem cld_c {t : Nat → Int} {a : Nat} {x p : Int} (hW : tW0 t) (ha : (a : Int) < t 6) : cld t (tU t (31 + 3 * a) x) a x p = (nr t a x p && wit t a x (t (32 + 3 * a))) := by
  have w6 := hW.wd.2.2.2.2
  unfold cld nr wit
  rw [tU_ne (show 0 ≠ 31 + 3 * a by omega), tU_ne (show 2 ≠ 31 + 3 * a by omega), tU_ne (show 3 ≠ 31 + 3 * a by omega), tU_ne (show 6 ≠ 31 + 3 * a by omega), tU_ne (show 32 + 3 * a ≠ 31 + 3 * a by omega), hst_c (u := t) (u2 := tU t (31 + 3 * a) x) (tU_ne (by omega)) (tU_ne (by omega)) (tU_ne (by omega)) (tU_ne (by omega)) (fun i _ q => tU_ne (by omega)) _ (by omega)]
theorem berR_l {s a : Nat} {x1 x3 : Int} {t : Nat → Int} {g : yH} {f : Nat → Int} (hf : ∀ c : Nat, f c = fcV t a (c : Int)) (T : tst s t t g) (hW : tW0 t) (ha : (a : Int) < t 6) : ∀ (mm k n : Nat) (y : Int), (mm : Int) + k = t 0 * t 1 → mm + 30 ≤ n →
    yR (xl_X12_berth n 32 [35, x1, (a : Int), x3, bsC f 0 k, bsV f k, (k : Int)] (zup g 10 a y)) (fun r g2 => r = (if x3 = 0 then bsC f 0 (t 0 * t 1).toNat else bsV f (t 0 * t 1).toNat) ∧ ∀ i j, i ≠ 10 → g2 i j = g i j) := by
  have Mb := M_b hW
  have w6 := hW.wd.2.2.2.2
  have w5 := hW.sl
  have h24 : g 35 24 = t 0 := T.1.2.2.1
  have h25 : g 35 25 = t 1 := T.1.2.2.2.1
  intro mm
  induction mm with
  | zero =>
    intro k n y e1 e2
    obtain ⟨n, rfl⟩ : ∃ n', n = n' + 1 := ⟨n - 1, by omega⟩
    rw [e_X12_berth_32, zup_ne (show ¬ (35 = 10 ∧ 24 = a) by omega), zup_ne (show ¬ (35 = 10 ∧ 25 = a) by omega), h24, h25, xg_pos (by omega), if_neg (by omega), show (t 0 * t 1).toNat = k by omega]
    by_cases c : x3 = 0
    · rw [if_pos c, if_pos c]
      exact yR.s ⟨rfl, fun i j w => zup_ne (by omega)⟩
    · rw [if_neg c, if_neg c]
      exact yR.s ⟨rfl, fun i j w => zup_ne (by omega)⟩
  | succ mm ih =>
    intro k n y e1 e2
    obtain ⟨n, rfl⟩ : ∃ n', n = n' + 1 := ⟨n - 1, by omega⟩
    have nx := ih (k + 1) n (k : Int) (by omega) (by omega)
    have hx : 0 ≤ (k : Int) ∧ (k : Int) ≤ 63 := by omega
    have TV : tst s t (tU t (31 + 3 * a) (k : Int)) (zup g 10 a (k : Int)) := T.up (Or.inl rfl) (T.1.cell (by omega))
    have WV : tW0 (tU t (31 + 3 * a) (k : Int)) := tU_W hW ⟨a, by omega, Or.inl ⟨rfl, hx⟩⟩
    have h6 : (a : Int) < tU t (31 + 3 * a) (k : Int) 6 := by rw [tU_ne (by omega)]; exact ha
    have sf := sfR_e (n := n) (by omega) TV hW WV h6 hx (zup_at _ _ _ _) (fun i => cld_c hW ha)
    have sb := swV_b (t := t) (b := a) (x := (k : Int)) (w := wit t a (k : Int) (t (32 + 3 * a))) (k := (t 5).toNat) (by omega)
    have fo := fsR_e (n := n) (by omega) TV hW sb
    have fe : fsV t (swV t a (k : Int) (wit t a (k : Int) (t (32 + 3 * a))) (t 5).toNat) = f k := by
      rw [hf]
      unfold swV fcV
      cases wit t a (k : Int) (t (32 + 3 * a)) with
      | false => rw [if_neg (by decide), if_neg (by decide), fsV_0 hW]
      | true => rw [if_pos rfl, if_pos rfl]
    rw [fe] at fo
    have d2 : bsV f (k + 1) = if bsV f k < f k then f k else bsV f k := rfl
    have d0 : bsC f 0 (k + 1) = if bsV f k < f k then (k : Int) else bsC f 0 k := rfl
    rw [e_X12_berth_32, zup_ne (show ¬ (35 = 10 ∧ 24 = a) by omega), zup_ne (show ¬ (35 = 10 ∧ 25 = a) by omega), h24, h25, xg_pos (by omega), if_pos (by omega), zup_ne (show ¬ (35 = 10 ∧ 30 = a) by omega), xg_pos (T.1.1.2.2.2.p (j := 30) (k := 10) (by decide)), xg_pos (by omega), xg_pos hx, Int.toNat_natCast a, zup_up, sf, xb_some, fo, xb_some]
    by_cases c : bsV f k < f k
    · rw [if_pos c] at d2 d0
      rw [d2, d0] at nx
      rw [if_pos c, gr_e, xb_some, Int.max_eq_right (by omega), xg_pos (by omega), show (k : Int) + 1 = ((k + 1 : Nat) : Int) by omega]
      exact nx
    · rw [if_neg c] at d2 d0
      rw [d2, d0] at nx
      rw [if_neg c, gr_e, xb_some, Int.max_eq_left (by omega), xg_pos (by omega), show (k : Int) + 1 = ((k + 1 : Nat) : Int) by omega]
      exact nx
theorem berR_e {m s : Nat} {x3 y : Int} {t : Nat → Int} {g : yH} {f : Nat → Int} (hf : ∀ a c : Nat, x3 = (a : Int) → f c = fcV t a (c : Int)) (hn : 100 ≤ m) (hq : rQ g) (h4 : ∀ j, j < 12 → 0 ≤ g 4 j ∧ g 4 j ≤ 2) (hs : (s : Int) < g 4 0) (ht : ∀ j, j < 50 → g 5 (50 * s + j) = t j) (hW : tW0 t) : yR (f_X12_berth m [35, (s : Int), x3, y] g) (fun v g2 => v = (if 0 ≤ x3 ∧ x3 < t 6 then (if y = 0 then bsC f 0 (t 0 * t 1).toNat else bsV f (t 0 * t 1).toNat) else -1) ∧ ∃ g1, lyR s t (zup g 35 0 0) g1 ∧ ∀ a j, a ≠ 10 → g2 a j = g1 a j) := by
  have Mb := M_b hW
  refine yR.e e_X12_berth ?_
  refine yR.b (layTold_e (by omega) (c0_q hq) (c0_4 h4) (by rw [zup_ne (by omega)]; exact hs) (fun j hj => by rw [zup_ne (by omega)]; exact ht j hj) hW) (fun v g1 ⟨rv, H⟩ => ?_)
  subst rv
  refine yR.f (by decide) ?_
  rw [isBoat_e H.1.1.2.2.2.2.2.2.1 hW, xb_some]
  by_cases c : 0 ≤ x3 ∧ x3 < t 6
  · obtain ⟨a, rfl⟩ : ∃ a : Nat, x3 = (a : Int) := ⟨x3.toNat, by omega⟩
    rw [if_pos c, if_pos c, if_neg (by decide)]
    have l := berR_l (x1 := (s : Int)) (x3 := y) (fun k => hf a k rfl) H.1 hW c.2 (t 0 * t 1).toNat 0 m (g1 10 a) (by omega) (by omega)
    have e : zup g1 10 a (g1 10 a) = g1 := by
      funext i j
      by_cases w : i = 10 ∧ j = a
      · rw [w.1, w.2, zup_at]
      · rw [zup_ne w]
    rw [e] at l
    exact l.m (fun r g2 ⟨r1, r2⟩ => ⟨r1, g1, H, r2⟩)
  · rw [if_neg c, if_neg c, if_pos rfl]
    exact yR.s ⟨rfl, g1, H, fun _ _ _ => rfl⟩
/-- behind a question of a choice -/
def chK (h g h2 g2 : yH) : Prop := RR True h2 g2 ∧ cPc h2 ∧ (∀ a j, a < 170 ∨ 174 ≤ a → h2 a j = h a j) ∧ k7 g g2
theorem chK.n {h g : yH} (R : RR True h g) (hL : lnI h) (hm : h 4 1 ≤ 600) (hc : cPc h) : chK h g h (zup g 35 0 0) := ⟨R.c0 hL hm, hc, fun _ _ _ => rfl, k7.c0⟩
theorem chK.l {s : Nat} {t : Nat → Int} {h h2 g g1 g2 : yH} (R : RR True h g) (hL : lnI h) (hm : h 4 1 ≤ 600) (H : lyR s t (zup g 35 0 0) g1) (e : ∀ a j, a ≠ 10 → a ≠ 26 → a ≠ 27 → a ≠ 28 → g2 a j = g1 a j) (c2 : cPc h2) (e2 : ∀ a j, a < 170 ∨ 174 ≤ a → h2 a j = h a j) : chK h g h2 g2 := by
  have R1 : RR True h g1 := (R.c0 hL hm).ly hL hm H
  have q2 : rQ g2 := H.1.1.1.2.2.2.fr (fun j _ => e _ _ (by omega) (by omega) (by omega) (by omega))
  refine ⟨(R1.gf hL hm q2.P (fun a j w => e a j (by omega) (by omega) (by omega) (by omega))).hf hL hm (fun a j w => e2 a j (by omega)), c2, e2, fun a j w1 w2 => by rw [e a j (by omega) (by omega) (by omega) (by omega), H.k7 a j w1 w2]⟩
theorem RR_berth {m n : Nat} {x y w : Int} {h g : yH} (hn : 200 ≤ n) (hm2 : 100 ≤ m) (R : RR True h g) (h15 : h 1 5 = 170) (hc : cPc h) (hL : lnI h) (hm : h 4 1 ≤ 600) (hq : rQ g) (h4 : ∀ j, j < 12 → 0 ≤ g 4 j ∧ g 4 j ≤ 2) : ∃ v h2 g2, f_X11_berth n [1, x, y, w] h = some (v, h2) ∧ f_X12_berth m [35, x, y, w] g = some (v, g2) ∧ chK h g h2 g2 := by
  have hP := R.1
  have n0 := R.n6 (j := 0) (by decide)
  have b0 := h4 0 (by decide)
  have p3 : h 1 0 = 3 := hP.p (by decide)
  by_cases c : 0 ≤ x ∧ x < g 4 0
  · obtain ⟨s, rfl⟩ : ∃ s : Nat, x = (s : Int) := ⟨x.toNat, by omega⟩
    obtain ⟨t, hS, hp, ht, hW⟩ := R.sea (s := s) (by omega) c.2
    obtain ⟨v, g2, e2, rv, g1, H, fr⟩ := berR_e (m := m) (x3 := y) (y := w) (f := fun k => fcV t y.toNat (k : Int)) (fun a k ea => by rw [ea, Int.toNat_natCast]) hm2 hq h4 c.2 ht hW
    by_cases c2 : 0 ≤ y ∧ y < t 6
    · obtain ⟨a, rfl⟩ : ∃ a : Nat, y = (a : Int) := ⟨y.toNat, by omega⟩
      obtain ⟨h2, f1, f2, f3, f4, f5⟩ := berC_e (n := n) (f := fun k => fcV t ((a : Int)).toNat (k : Int)) (fun k => by rw [Int.toNat_natCast]) hn (by omega) hW c2.2 hS hp hc
      refine ⟨v, h2, g2, ?_, e2, chK.l R hL hm H (fun i j w1 _ _ _ => fr i j w1) f3 f2⟩
      have k15 : h2 1 5 = 170 := (f2 _ _ (by omega)).trans h15
      rw [e_X11_berth, xg_pos p3, findSea_e hP (by omega), xb_some, if_pos (show 0 ≤ (s : Int) ∧ (s : Int) < h 6 0 by omega), if_neg (by omega), xg_pos (by omega), show 20 + 10 * (s : Int) = ((20 + 10 * s : Nat) : Int) by omega, hasBoat_e hS, xb_some, if_pos c2, if_neg (by decide), xg_pos h15, xg_pos (by omega), f1, xb_some, rv, if_pos c2]
      by_cases cw : w = 0
      · rw [if_pos cw, if_pos cw, xg_pos k15, f5]
      · rw [if_neg cw, if_neg cw, xg_pos k15, f4]
    · refine ⟨v, h, g2, ?_, e2, chK.l R hL hm H (fun i j w1 _ _ _ => fr i j w1) hc (fun _ _ _ => rfl)⟩
      rw [e_X11_berth, xg_pos p3, findSea_e hP (by omega), xb_some, if_pos (show 0 ≤ (s : Int) ∧ (s : Int) < h 6 0 by omega), if_neg (by omega), xg_pos (by omega), show 20 + 10 * (s : Int) = ((20 + 10 * s : Nat) : Int) by omega, hasBoat_e hS, xb_some, if_neg c2, if_pos rfl, rv, if_neg c2]
  · refine ⟨-1, h, zup g 35 0 0, ?_, ?_, chK.n R hL hm hc⟩
    · rw [e_X11_berth, xg_pos p3, findSea_e hP (by omega), xb_some, if_neg (show ¬ (0 ≤ x ∧ x < h 6 0) by omega), if_pos (by decide)]
    · rw [e_X12_berth, layTold_n (c0_q hq) (c0_4 h4) (by rw [zup_ne (by omega)]; exact c), xb_some, if_pos rfl]
end
section
/-! two boats together: who hears whom -/
theorem bcn_06 (x : Int) : 0 ≤ bcn x ∧ bcn x ≤ 6 := by
  unfold bcn
  omega
theorem bcn_cF : ∀ x : Fin 64, ∀ o : Fin 6, bcn (x.val : Int) = bcn (clr (x.val : Int) o.val) + (if bt (x.val : Int) o.val = true then 1 else 0) := by decide +kernel
theorem bcn_c {x : Int} {o : Nat} (hx : 0 ≤ x ∧ x ≤ 63) (ho : o < 6) : bcn x = bcn (clr x o) + (if bt x o = true then 1 else 0) := by
  have := bcn_cF ⟨x.toNat, by omega⟩ ⟨o, ho⟩
  simp only at this
  rw [show ((x.toNat : Nat) : Int) = x by omega] at this
  exact this
theorem clrXF : ∀ x : Fin 64, ∀ k o : Fin 6, clr (yari 8 (x.val : Int) (yari 5 1 (k.val : Int))) o.val = if k.val = o.val then clr (x.val : Int) o.val else yari 8 (clr (x.val : Int) o.val) (yari 5 1 (k.val : Int)) := by decide +kernel
theorem clrX {x : Int} {k o : Nat} (hx : 0 ≤ x ∧ x ≤ 63) (hk : k < 6) (ho : o < 6) : clr (yari 8 x (yari 5 1 (k : Int))) o = if k = o then clr x o else yari 8 (clr x o) (yari 5 1 (k : Int)) := by
  have := clrXF ⟨x.toNat, by omega⟩ ⟨k, hk⟩ ⟨o, ho⟩
  simp only at this
  rw [show ((x.toNat : Nat) : Int) = x by omega] at this
  exact this
theorem hst_o {t u : Nat → Int} {fr vo : Int} {a o : Nat} (e : ∀ i, i < 6 → i ≠ o → hq u fr vo a i = hq t fr vo a i) (ho : o < 6) : ∀ k, k ≤ 6 → clr (hst u fr vo a k) o = clr (hst t fr vo a k) o ∧ bt (hst u fr vo a k) o = (decide (o < k) && hq u fr vo a o) := by
  intro k
  induction k with
  | zero =>
    intro _
    refine ⟨rfl, ?_⟩
    rw [decide_eq_false (show ¬ (o < 0) by omega), Bool.false_and]
    have z : ∀ c : Fin 6, bt 0 c.val = false := by decide +kernel
    exact z ⟨o, ho⟩
  | succ k ih =>
    intro hk
    obtain ⟨i1, i2⟩ := ih (by omega)
    have A : ∀ v : Nat → Int, clr (hst v fr vo a (k + 1)) o = if k ≠ o ∧ hq v fr vo a k = true then yari 8 (clr (hst v fr vo a k) o) (yari 5 1 (k : Int)) else clr (hst v fr vo a k) o := fun v => by
      have cv := clrX (hst_b (u := v) (fr := fr) (vo := vo) (a := a) k (by omega)) (show k < 6 by omega) ho
      by_cases eh : hq v fr vo a k = true
      · rw [hst_t eh, cv]
        by_cases q : k = o
        · rw [if_pos q, if_neg (by exact fun w => w.1 q)]
        · rw [if_neg q, if_pos (by exact ⟨q, eh⟩)]
      · rw [hst_f (by cases e3 : hq v fr vo a k with
          | false => rfl
          | true => exact absurd e3 eh), if_neg (by exact fun w => eh w.2)]
    constructor
    · rw [A u, A t, i1]
      by_cases q : k = o
      · rw [if_neg (by exact fun w => w.1 q), if_neg (by exact fun w => w.1 q)]
      · rw [e k (by omega) q]
    · have bu := hst_b (u := u) (fr := fr) (vo := vo) (a := a) k (by omega)
      have ob := (or_b bu (shF ⟨k, by omega⟩).1).2.1 o ho
      have s4 := (shF ⟨k, by omega⟩).2.2.2 ⟨o, ho⟩
      simp only at ob s4
      rw [s4, i2] at ob
      have dk : o ≠ k → decide (o < k + 1) = decide (o < k) := fun q => by
        by_cases w : o < k
        · rw [decide_eq_true w, decide_eq_true (show o < k + 1 by omega)]
        · rw [decide_eq_false w, decide_eq_false (show ¬ (o < k + 1) by omega)]
      by_cases eh : hq u fr vo a k = true
      · rw [hst_t eh, ob]
        by_cases q : o = k
        · subst q
          rw [eh, decide_eq_true (show o < o + 1 by omega), decide_eq_true (show o = o from rfl), Bool.or_true]
          rfl
        · rw [dk q, decide_eq_false q, Bool.or_false]
      · have eh2 : hq u fr vo a k = false := by
          cases e3 : hq u fr vo a k with
          | false => rfl
          | true => exact absurd e3 eh
        rw [hst_f eh2, i2]
        by_cases q : o = k
        · subst q
          rw [eh2, Bool.and_false, Bool.and_false]
        · rw [dk q]
/-- the other one hears -/
def hrO (t : Nat → Int) (a o : Nat) (x y : Int) : Bool := decide (yari 7 (yari 6 (t 49) (o : Int)) 1 = 0) && decide (cst (t 0) (t 2) (t 3) x y ≤ t (32 + 3 * a))
theorem wv_o {t u : Nat → Int} {a o : Nat} {x y : Int} (hW : tW0 t) (ha6 : (a : Int) < t 6) (ho : (o : Int) < t 6) (hao : o ≠ a) (e : ∀ i, i ≠ 31 + 3 * a → i ≠ 31 + 3 * o → u i = t i) (ey : u (31 + 3 * o) = y) : bcn (hst u x (t (32 + 3 * a)) a (t 6).toNat) = wvN t a (o : Int) x + (if hrO t a o x y = true then 1 else 0) := by
  have w6 := hW.wd.2.2.2.2
  have ha := hst_b (u := u) (fr := x) (vo := t (32 + 3 * a)) (a := a) (t 6).toNat (by omega)
  obtain ⟨o1, o2⟩ := hst_o (t := t) (u := u) (fr := x) (vo := t (32 + 3 * a)) (a := a) (o := o) (fun i hi hio => by
    unfold hq
    by_cases q : i = a
    · rw [decide_eq_false (fun w => w q), Bool.false_and, Bool.false_and]
    · rw [e 49 (by omega) (by omega), e 0 (by omega) (by omega), e 2 (by omega) (by omega), e 3 (by omega) (by omega), e (31 + 3 * i) (by omega) (by omega)]) (by omega) (t 6).toNat (by omega)
  have eq : hq u x (t (32 + 3 * a)) a o = hrO t a o x y := by
    unfold hq hrO
    rw [decide_eq_true hao, Bool.true_and, e 49 (by omega) (by omega), e 0 (by omega) (by omega), e 2 (by omega) (by omega), e 3 (by omega) (by omega), ey]
  rw [decide_eq_true (show o < (t 6).toNat by omega), Bool.true_and, eq] at o2
  have ew : wvN t a (o : Int) x = bcn (clr (hst t x (t (32 + 3 * a)) a (t 6).toNat) o) := by
    unfold wvN
    rw [if_neg (by omega), Int.toNat_natCast]
  rw [bcn_c ha (show o < 6 by omega), o1, o2, ew]
def pbV (t : Nat → Int) (a o : Nat) (x y : Int) : Int := swV t a x (decide (lawV t a 1 ≤ wvN t a (o : Int) x + (if hrO t a o x y = true then 1 else 0))) (t 5).toNat
theorem pbV_b {t : Nat → Int} {a o : Nat} {x y : Int} (hW : tW0 t) : 0 ≤ pbV t a o x y ∧ pbV t a o x y ≤ 15 := by
  have n := nst_15 (t := t) (a := a) (fr := x) hW
  unfold pbV swV
  cases decide (lawV t a 1 ≤ wvN t a (o : Int) x + (if hrO t a o x y = true then 1 else 0)) with
  | false => rw [if_neg (by decide)]; exact ⟨by decide, by decide⟩
  | true => rw [if_pos rfl]; exact n
theorem or15 {x y : Int} (hx : 0 ≤ x ∧ x ≤ 15) (hy : 0 ≤ y ∧ y ≤ 15) : 0 ≤ yari 8 x y ∧ yari 8 x y ≤ 15 := by
  obtain ⟨o1, -, -, o4⟩ := or_b (x := x) (y := y) (by omega) (by omega)
  have := o4 4 (by decide) (by rw [show (2 : Int) ^ 4 = 16 from rfl]; omega) (by rw [show (2 : Int) ^ 4 = 16 from rfl]; omega)
  rw [show (2 : Int) ^ 4 = 16 from rfl] at this
  omega
theorem cbC_e {n b a o of x y : Nat} {t : Nat → Int} {h : yH} (hS : cS b t h) (hp : cSp b h) (hc : cPc h) (hW : tW0 t) (ha : (a : Int) < t 6) (hx : x < 64) (hy : y < 64) (hof : of = 0 ∨ of = 64) (k1 : h 171 (of + x) = nst t a (x : Int) (t 5).toNat) (k2 : h 172 (of + x) = wvN t a (o : Int) (x : Int)) : f_X0_claimableBeside n [170, (b : Int), (a : Int), (o : Int), (x : Int), (y : Int), (of : Int)] h = some (pbV t a o (x : Int) (y : Int), h) := by
  have w6 := hW.wd.2.2.2.2
  have d := hW.wd
  obtain ⟨a0, a1, a2, a3, a4, a5, a6, a7, a8, a9, a10⟩ := id hS
  have lw := lawC_e (n := n) (w := 1) hS hp hW ha (by decide)
  rw [show ((1 : Nat) : Int) = 1 from rfl] at lw
  have eo : ((of : Int) + (x : Int)).toNat = of + x := by omega
  have e6 : ((b : Int) + 6).toNat = b + 6 := by omega
  have wb := bcn_06
  have wv : 0 ≤ wvN t a (o : Int) (x : Int) ∧ wvN t a (o : Int) (x : Int) ≤ 6 := bcn_06 _
  have J : ∀ z w : Int, xq_X0_claimableBeside_55 n [170, (b : Int), (a : Int), (o : Int), (x : Int), (y : Int), (of : Int), z, w] h = some (swV t a (x : Int) (decide (lawV t a 1 ≤ z)) (t 5).toNat, h) := fun z w => by
    unfold swV
    rw [e_X0_claimableBeside_55, lw, xb_some]
    by_cases c : z < lawV t a 1
    · rw [if_pos c, decide_eq_false (show ¬ (lawV t a 1 ≤ z) by omega), if_neg (by decide)]
    · rw [if_neg c, decide_eq_true (show lawV t a 1 ≤ z by omega), if_pos rfl, xg_pos hc.1, xg_pos (by omega), xg_pos (by omega), eo, k1]
  rw [e_X0_claimableBeside, xg_pos hc.2.1, xg_pos (by omega), xg_pos (by omega), Int.toNat_natCast b, a7, eo, k2]
  unfold pbV hrO
  by_cases c : yari 7 (yari 6 (t 49) (o : Int)) 1 = 0
  · rw [if_pos c, cost_e a0 a2 a3 d.1 d.2.2.2.1 (by omega) (by omega), xb_some, xg_pos hp.2.2.2.2.2.1, xg_pos (by omega), e6, Int.toNat_natCast a, (a10 a ha).2.1, decide_eq_true c, Bool.true_and]
    by_cases c2 : t (32 + 3 * a) < cst (t 0) (t 2) (t 3) (x : Int) (y : Int)
    · rw [if_pos c2, if_pos rfl, J, decide_eq_false (show ¬ (cst (t 0) (t 2) (t 3) (x : Int) (y : Int) ≤ t (32 + 3 * a)) by omega), if_neg (show ¬ (false = true) by decide), Int.add_zero]
    · rw [if_neg c2, if_neg (by decide), xg_pos (by omega), J, decide_eq_true (show cst (t 0) (t 2) (t 3) (x : Int) (y : Int) ≤ t (32 + 3 * a) by omega), if_pos rfl]
  · rw [if_neg c, if_pos rfl, J, decide_eq_false c, Bool.false_and, if_neg (show ¬ (false = true) by decide), Int.add_zero]
/-- the fish of a couple of cells -/
def prF (t : Nat → Int) (a o : Nat) (p : Nat) : Int := if ((p % 64 : Nat) : Int) < t 0 * t 1 then fsV t (yari 8 (pbV t a o ((p / 64 : Nat) : Int) ((p % 64 : Nat) : Int)) (pbV t o a ((p % 64 : Nat) : Int) ((p / 64 : Nat) : Int))) else -1
theorem bsV_g {f : Nat → Int} : ∀ k, -1 ≤ bsV f k := by
  intro k
  induction k with
  | zero => exact Int.le_refl _
  | succ k ih =>
    show -1 ≤ (if bsV f k < f k then f k else bsV f k)
    by_cases c : bsV f k < f k
    · rw [if_pos c]; omega
    · rw [if_neg c]; exact ih
theorem bs_skip {f : Nat → Int} {c0 : Int} {k : Nat} : ∀ d, (∀ j, j < d → f (k + j) = -1) → bsV f (k + d) = bsV f k ∧ bsC f c0 (k + d) = bsC f c0 k := by
  intro d
  induction d with
  | zero => intro _; exact ⟨rfl, rfl⟩
  | succ d ih =>
    intro hj
    obtain ⟨i1, i2⟩ := ih (fun j w => hj j (by omega))
    have g := bsV_g (f := f) (k + d)
    have e := hj d (by omega)
    have nc : ¬ (bsV f (k + d) < f (k + d)) := by omega
    have d2 : bsV f (k + (d + 1)) = if bsV f (k + d) < f (k + d) then f (k + d) else bsV f (k + d) := rfl
    have d0 : bsC f c0 (k + (d + 1)) = if bsV f (k + d) < f (k + d) then ((k + d : Nat) : Int) else bsC f c0 (k + d) := rfl
    rw [d2, d0, if_neg nc, if_neg nc]
    exact ⟨i1, i2⟩
theorem prF_s {t : Nat → Int} {a o k : Nat} (hW : tW0 t) (c0 : Int) : bsV (prF t a o) (64 * k + (t 0 * t 1).toNat + (64 - (t 0 * t 1).toNat)) = bsV (prF t a o) (64 * k + (t 0 * t 1).toNat) ∧ bsC (prF t a o) c0 (64 * k + (t 0 * t 1).toNat + (64 - (t 0 * t 1).toNat)) = bsC (prF t a o) c0 (64 * k + (t 0 * t 1).toNat) := by
  have Mb := M_b hW
  refine bs_skip _ (fun j hj => if_neg ?_)
  have : (64 * k + (t 0 * t 1).toNat + j) % 64 = (t 0 * t 1).toNat + j := by omega
  rw [this]
  omega
end
section
/-! two boats together: the best couple of cells, the class -/
def prE (f : Nat → Int) (p : Nat) (h h2 : yH) : Prop := (∀ x j, ¬ (x = 170 ∧ (j = 0 ∨ j = 1 ∨ j = 2)) → h2 x j = h x j) ∧ h2 170 2 = bsV f p ∧ (p = 0 ∨ ∃ i j : Nat, i < 64 ∧ j < 64 ∧ h2 170 0 = (i : Int) ∧ h2 170 1 = (j : Int) ∧ bsC f 0 p = ((64 * i + j : Nat) : Int))
/-- what was seen from all cells by both -/
def prK (t : Nat → Int) (a o : Nat) (h : yH) : Prop := (∀ c : Nat, (c : Int) < t 0 * t 1 → (h 171 (0 + c) = nst t a (c : Int) (t 5).toNat ∧ h 172 (0 + c) = wvN t a (o : Int) (c : Int)) ∧ h 171 (64 + c) = nst t o (c : Int) (t 5).toNat ∧ h 172 (64 + c) = wvN t o (a : Int) (c : Int)) ∧ ∀ j : Nat, j < 16 → h 173 j = fsV t (j : Int)
theorem prC_i {b a o i : Nat} {t : Nat → Int} {h : yH} (hb : b + 8 ≤ 170) (hW : tW0 t) (ha : (a : Int) < t 6) (ho : (o : Int) < t 6) (hS : cS b t h) (hp : cSp b h) (hc : cPc h) (hK : prK t a o h) (hi : (i : Int) < t 0 * t 1) : ∀ (mm j n : Nat) (hh : yH), (mm : Int) + j = t 0 * t 1 → prE (prF t a o) (64 * i + j) h hh →
    ∃ h2, xl_X0_findPair (n + mm + 1) 42 [170, (b : Int), (a : Int), (o : Int), (i : Int), (j : Int)] hh = xl_X0_findPair n 30 [170, (b : Int), (a : Int), (o : Int), ((i + 1 : Nat) : Int)] h2 ∧ prE (prF t a o) (64 * i + (t 0 * t 1).toNat) h h2 := by
  have Mb := M_b hW
  intro mm
  induction mm with
  | zero =>
    intro j n hh e1 I
    have S1 : cS b t hh := hS.fr (fun x j w1 w2 => I.1 x j (by omega))
    refine ⟨hh, ?_, ?_⟩
    · rw [Nat.add_zero, e_X0_findPair_42, cells_e S1 hW, xb_some, if_neg (by omega), xg_pos (by omega), show (i : Int) + 1 = ((i + 1 : Nat) : Int) by omega]
    · rw [show (t 0 * t 1).toNat = j by omega]; exact I
  | succ mm ih =>
    intro j n hh e1 I
    obtain ⟨fr, v2, v0⟩ := id I
    have S1 : cS b t hh := hS.fr (fun x j w1 w2 => fr x j (by omega))
    have p1 : cSp b hh := hp.fr (fun j _ => fr b j (by omega))
    have c1 : cPc hh := hc.fr (fun j w1 w2 => fr 170 j (by omega))
    obtain ⟨⟨k1, k2⟩, -, -⟩ := hK.1 i hi
    obtain ⟨-, k3, k4⟩ := hK.1 j (by omega)
    have q1 := cbC_e (n := n + (mm + 1)) (o := o) (of := 0) (x := i) (y := j) S1 p1 c1 hW ha (by omega) (by omega) (Or.inl rfl) (by rw [fr 171 _ (by omega)]; exact k1) (by rw [fr 172 _ (by omega)]; exact k2)
    have q2 := cbC_e (n := n + (mm + 1)) (a := o) (o := a) (of := 64) (x := j) (y := i) S1 p1 c1 hW ho (by omega) (by omega) (Or.inr rfl) (by rw [fr 171 _ (by omega)]; exact k3) (by rw [fr 172 _ (by omega)]; exact k4)
    rw [show ((0 : Nat) : Int) = 0 from rfl] at q1
    rw [show ((64 : Nat) : Int) = 64 from rfl] at q2
    have b15 := or15 (pbV_b (t := t) (a := a) (o := o) (x := (i : Int)) (y := (j : Int)) hW) (pbV_b (t := t) (a := o) (o := a) (x := (j : Int)) (y := (i : Int)) hW)
    have e3 := hK.2 (yari 8 (pbV t a o (i : Int) (j : Int)) (pbV t o a (j : Int) (i : Int))).toNat (by omega)
    rw [show (((yari 8 (pbV t a o (i : Int) (j : Int)) (pbV t o a (j : Int) (i : Int))).toNat : Nat) : Int) = yari 8 (pbV t a o (i : Int) (j : Int)) (pbV t o a (j : Int) (i : Int)) by omega, ← fr 173 _ (by omega)] at e3
    have fe : prF t a o (64 * i + j) = fsV t (yari 8 (pbV t a o (i : Int) (j : Int)) (pbV t o a (j : Int) (i : Int))) := by
      have m1 : (64 * i + j) % 64 = j := by omega
      have m2 : (64 * i + j) / 64 = i := by omega
      unfold prF
      rw [m1, m2, if_pos (by omega)]
    rw [← fe] at e3
    have d2 : bsV (prF t a o) (64 * i + (j + 1)) = if bsV (prF t a o) (64 * i + j) < prF t a o (64 * i + j) then prF t a o (64 * i + j) else bsV (prF t a o) (64 * i + j) := rfl
    have d0 : bsC (prF t a o) 0 (64 * i + (j + 1)) = if bsV (prF t a o) (64 * i + j) < prF t a o (64 * i + j) then ((64 * i + j : Nat) : Int) else bsC (prF t a o) 0 (64 * i + j) := rfl
    by_cases c : bsV (prF t a o) (64 * i + j) < prF t a o (64 * i + j)
    · rw [if_pos c] at d2 d0
      obtain ⟨h2, g1, g2⟩ := ih (j + 1) n (zup (zup (zup hh 170 2 (prF t a o (64 * i + j))) 170 0 (i : Int)) 170 1 (j : Int)) (by omega) ⟨fun x j w => by rw [zup_ne (by omega), zup_ne (by omega), zup_ne (by omega)]; exact fr x j w, by rw [zup_ne (show ¬ (170 = 170 ∧ 2 = 1) by omega), zup_ne (show ¬ (170 = 170 ∧ 2 = 0) by omega), zup_at, d2], Or.inr ⟨i, j, by omega, by omega, by rw [zup_ne (show ¬ (170 = 170 ∧ 0 = 1) by omega), zup_at], zup_at _ _ _ _, d0⟩⟩
      refine ⟨h2, ?_, g2⟩
      rw [show n + (mm + 1) + 1 = (n + (mm + 1)) + 1 from rfl, e_X0_findPair_42, cells_e S1 hW, xb_some, if_pos (by omega), q1, xb_some, q2, xb_some, xg_pos c1.2.2, xg_pos (by omega), v2, e3, if_pos c, xg_pos (by omega), show (j : Int) + 1 = ((j + 1 : Nat) : Int) by omega]
      exact g1
    · rw [if_neg c] at d2 d0
      obtain ⟨h2, g1, g2⟩ := ih (j + 1) n hh (by omega) ⟨fr, by rw [v2, d2], by
        rcases v0 with v0 | ⟨i', j', w1, w2, w3, w4, w5⟩
        · exfalso
          rw [v0] at c
          have f0 := fsV_b (x := yari 8 (pbV t a o (i : Int) (j : Int)) (pbV t o a (j : Int) (i : Int))) hW
          rw [v0] at fe
          have b0 : bsV (prF t a o) 0 = -1 := rfl
          omega
        · exact Or.inr ⟨i', j', w1, w2, w3, w4, by rw [d0]; exact w5⟩⟩
      refine ⟨h2, ?_, g2⟩
      rw [show n + (mm + 1) + 1 = (n + (mm + 1)) + 1 from rfl, e_X0_findPair_42, cells_e S1 hW, xb_some, if_pos (by omega), q1, xb_some, q2, xb_some, xg_pos c1.2.2, xg_pos (by omega), v2, e3, if_neg c, xg_pos (by omega), show (j : Int) + 1 = ((j + 1 : Nat) : Int) by omega]
      exact g1
theorem prC_l {b a o : Nat} {t : Nat → Int} {h : yH} (hb : b + 8 ≤ 170) (hW : tW0 t) (ha : (a : Int) < t 6) (ho : (o : Int) < t 6) (hS : cS b t h) (hp : cSp b h) (hc : cPc h) (hK : prK t a o h) : ∀ (mm i n : Nat) (hh : yH), (mm : Int) + i = t 0 * t 1 → 66 * mm + 1 ≤ n → prE (prF t a o) (64 * i) h hh →
    ∃ h2, xl_X0_findPair n 30 [170, (b : Int), (a : Int), (o : Int), (i : Int)] hh = some (0, h2) ∧ prE (prF t a o) (64 * (t 0 * t 1).toNat) h h2 := by
  have Mb := M_b hW
  intro mm
  induction mm with
  | zero =>
    intro i n hh e1 e2 I
    obtain ⟨n, rfl⟩ : ∃ n', n = n' + 1 := ⟨n - 1, by omega⟩
    have S1 : cS b t hh := hS.fr (fun x j w1 w2 => I.1 x j (by omega))
    refine ⟨hh, ?_, ?_⟩
    · rw [e_X0_findPair_30, cells_e S1 hW, xb_some, if_neg (by omega)]
    · rw [show (t 0 * t 1).toNat = i by omega]; exact I
  | succ mm ih =>
    intro i n hh e1 e2 I
    obtain ⟨n, rfl⟩ : ∃ n', n = (n' + (t 0 * t 1).toNat + 1) + 1 := ⟨n - (t 0 * t 1).toNat - 2, by omega⟩
    have S1 : cS b t hh := hS.fr (fun x j w1 w2 => I.1 x j (by omega))
    obtain ⟨h3, i1, i2⟩ := prC_i (i := i) hb hW ha ho hS hp hc hK (by omega) (t 0 * t 1).toNat 0 n hh (by omega) I
    rw [show ((0 : Nat) : Int) = 0 from rfl] at i1
    obtain ⟨s1, s2⟩ := prF_s (a := a) (o := o) (k := i) hW 0
    rw [show 64 * i + (t 0 * t 1).toNat + (64 - (t 0 * t 1).toNat) = 64 * (i + 1) by omega] at s1 s2
    obtain ⟨f1, f2, f3⟩ := i2
    obtain ⟨h2, g1, g2⟩ := ih (i + 1) n h3 (by omega) (by omega) ⟨f1, by rw [s1]; exact f2, by
      rcases f3 with f3 | ⟨i', j', w1, w2, w3, w4, w5⟩
      · exfalso; omega
      · exact Or.inr ⟨i', j', w1, w2, w3, w4, by rw [s2]; exact w5⟩⟩
    refine ⟨h2, ?_, g2⟩
    rw [e_X0_findPair_30, cells_e S1 hW, xb_some, if_pos (by omega), i1]
    exact g1
theorem prC_e {n b a o : Nat} {t : Nat → Int} {h : yH} (hn : 4400 ≤ n) (hb : b + 8 ≤ 170) (hW : tW0 t) (ha : (a : Int) < t 6) (ho : (o : Int) < t 6) (hS : cS b t h) (hp : cSp b h) (hc : cPc h) : ∃ h2, f_X0_findPair n [170, (b : Int), (a : Int), (o : Int)] h = some (0, h2) ∧ (∀ x j, x < 170 ∨ 174 ≤ x → h2 x j = h x j) ∧ cPc h2 ∧ h2 170 2 = bsV (prF t a o) (64 * (t 0 * t 1).toNat) ∧ ∃ i j : Nat, i < 64 ∧ j < 64 ∧ h2 170 0 = (i : Int) ∧ h2 170 1 = (j : Int) ∧ bsC (prF t a o) 0 (64 * (t 0 * t 1).toNat) = ((64 * i + j : Nat) : Int) := by
  have Mb := M_b hW
  have w6 := hW.wd.2.2.2.2
  obtain ⟨hA, A1, A2, A3⟩ := aft_l (h := h) (by omega) hW 16 0 n h rfl (by omega) hS hp hc.2.2 (fun _ _ _ => rfl) (fun j hj => by omega)
  have SA : cS b t hA := hS.fr (fun x j w1 w2 => A2 x j (by omega))
  have pA : cSp b hA := hp.fr (fun j _ => A2 b j (by omega))
  have cA : cPc hA := hc.fr (fun j _ _ => A2 170 j (by omega))
  obtain ⟨hB, B1, B2, B3⟩ := look_e (n := n) (lo := (o : Int)) (of := 0) (by omega) hb hW ha (Or.inl rfl) (Or.inr (by omega)) SA pA cA
  have SB : cS b t hB := SA.fr (fun x j w1 w2 => B3 x j (by omega))
  have pB : cSp b hB := pA.fr (fun j _ => B3 b j (by omega))
  have cB : cPc hB := cA.fr (fun j _ _ => B3 170 j (by omega))
  obtain ⟨hC, C1, C2, C3⟩ := look_e (n := n) (lo := (a : Int)) (of := 64) (by omega) hb hW ho (Or.inr rfl) (Or.inr (by omega)) SB pB cB
  have SC : cS b t hC := SB.fr (fun x j w1 w2 => C3 x j (by omega))
  have pC : cSp b hC := pB.fr (fun j _ => C3 b j (by omega))
  have cC : cPc hC := cB.fr (fun j _ _ => C3 170 j (by omega))
  have u : ∀ x j, ¬ (x = 170 ∧ j = 2) → (zup hC 170 2 (-1)) x j = hC x j := fun x j w => zup_ne w
  obtain ⟨h2, g1, g2, g3, g4⟩ := prC_l (h := zup hC 170 2 (-1)) hb hW ha ho (SC.fr (fun x j w1 w2 => u x j (by omega))) (pC.fr (fun j _ => u b j (by omega))) (cC.fr (fun j w1 w2 => u 170 j (by omega))) ⟨fun c q => by
    obtain ⟨q1, q2⟩ := B2 c (by omega)
    obtain ⟨q3, q4⟩ := C2 c (by omega)
    rw [u 171 (0 + c) (by omega), u 172 (0 + c) (by omega), u 171 (64 + c) (by omega), u 172 (64 + c) (by omega), C3 171 (0 + c) (by omega), C3 172 (0 + c) (by omega)]
    exact ⟨⟨q1, q2⟩, q3, q4⟩, fun j hj => by rw [u 173 j (by omega), C3 173 j (by omega), B3 173 j (by omega)]; exact A3 j hj⟩ (t 0 * t 1).toNat 0 n (zup hC 170 2 (-1)) (by omega) (by omega) ⟨fun _ _ _ => rfl, zup_at _ _ _ _, Or.inl rfl⟩
  refine ⟨h2, ?_, fun x j w => by rw [g2 x j (by omega), u x j (by omega), C3 x j (by omega), B3 x j (by omega), A2 x j (by omega)], cC.fr (fun j w1 w2 => by rw [g2 170 j (by omega), u 170 j (by omega)]), g3, g4.resolve_left (by omega)⟩
  rw [e_X0_findPair, e_X0_addFishTogether]
  rw [show ((0 : Nat) : Int) = 0 from rfl] at A1 B1 g1
  rw [show ((64 : Nat) : Int) = 64 from rfl] at C1
  rw [A1, xb_some, B1, xb_some, C1, xb_some]
  exact g1
end
section
/-! two boats together: the reference -/
theorem yq64F : ∀ i j : Fin 64, yari 3 ((64 * i.val + j.val : Nat) : Int) 64 = (i.val : Int) ∧ yari 4 ((64 * i.val + j.val : Nat) : Int) 64 = (j.val : Int) := by decide +kernel
theorem yq64 {i j : Nat} (hi : i < 64) (hj : j < 64) : yari 3 ((64 * i + j : Nat) : Int) 64 = (i : Int) ∧ yari 4 ((64 * i + j : Nat) : Int) 64 = (j : Int) := yq64F ⟨i, hi⟩ ⟨j, hj⟩
/-- the reference's two boats, wherever they stand now -/
def prG (a o : Nat) (g G : yH) : Prop := (∀ i j, i ≠ 10 → G i j = g i j) ∧ ∀ x y : Int, zup (zup G 10 a x) 10 o y = zup (zup g 10 a x) 10 o y
theorem prG.r {a o : Nat} {g : yH} : prG a o g g := ⟨fun _ _ _ => rfl, fun _ _ => rfl⟩
theorem prG.s {a o : Nat} {g G : yH} {x y : Int} (hao : o ≠ a) (H : prG a o g G) : prG a o g (zup (zup g 10 a x) 10 o y) := by
  refine ⟨fun i j w => by rw [zup_ne (by omega), zup_ne (by omega)], fun x2 y2 => ?_⟩
  funext i j
  by_cases w : i = 10 ∧ j = o
  · rw [w.1, w.2, zup_at, zup_at]
  · rw [zup_ne w, zup_ne w]
    by_cases w2 : i = 10 ∧ j = a
    · rw [w2.1, w2.2, zup_at, zup_at]
    · rw [zup_ne w2, zup_ne w2, zup_ne w, zup_ne w2]
theorem prR_l {s a o : Nat} {x1 x4 : Int} {t : Nat → Int} {g : yH} (T : tst s t t g) (hW : tW0 t) (ha : (a : Int) < t 6) (ho : (o : Int) < t 6) (hao : o ≠ a) : ∀ (mm p n : Nat) (G : yH), mm + p = 64 * (t 0 * t 1).toNat → mm + 40 ≤ n → prG a o g G →
    yR (xl_X12_pair n 55 [35, x1, (a : Int), (o : Int), x4, bsC (prF t a o) 0 p, bsV (prF t a o) p, (p : Int)] G) (fun r g2 => r = (if x4 = 0 then yari 3 (bsC (prF t a o) 0 (64 * (t 0 * t 1).toNat)) 64 else if x4 = 1 then yari 4 (bsC (prF t a o) 0 (64 * (t 0 * t 1).toNat)) 64 else bsV (prF t a o) (64 * (t 0 * t 1).toNat)) ∧ ∀ i j, i ≠ 10 → g2 i j = g i j) := by
  have Mb := M_b hW
  have w6 := hW.wd.2.2.2.2
  have d := hW.wd
  have w5 := hW.sl
  have em : 64 * t 0 * t 1 = 64 * (t 0 * t 1) := Int.mul_assoc _ _ _
  intro mm
  induction mm with
  | zero =>
    intro p n G e1 e2 H
    obtain ⟨n, rfl⟩ : ∃ n', n = n' + 1 := ⟨n - 1, by omega⟩
    have h24 : G 35 24 = t 0 := (H.1 _ _ (by omega)).trans T.1.2.2.1
    have h25 : G 35 25 = t 1 := (H.1 _ _ (by omega)).trans T.1.2.2.2.1
    rw [e_X12_pair_55, h24, h25, em, xg_pos (by omega), xg_pos (by omega), if_neg (by omega), show 64 * (t 0 * t 1).toNat = p by omega]
    by_cases c : x4 = 0
    · rw [if_pos c, if_pos c]
      exact yR.s ⟨rfl, H.1⟩
    · rw [if_neg c, if_neg c]
      by_cases c2 : x4 = 1
      · rw [if_pos c2, if_pos c2]
        exact yR.s ⟨rfl, H.1⟩
      · rw [if_neg c2, if_neg c2]
        exact yR.s ⟨rfl, H.1⟩
  | succ mm ih =>
    intro p n G e1 e2 H
    obtain ⟨n, rfl⟩ : ∃ n', n = n' + 1 := ⟨n - 1, by omega⟩
    have h24 : G 35 24 = t 0 := (H.1 _ _ (by omega)).trans T.1.2.2.1
    have h25 : G 35 25 = t 1 := (H.1 _ _ (by omega)).trans T.1.2.2.2.1
    have h30 : G 35 30 = 10 := (H.1 _ _ (by omega)).trans (T.1.1.2.2.2.p (j := 30) (k := 10) (by decide))
    obtain ⟨y3, y4⟩ := yq64 (i := p / 64) (j := p % 64) (by omega) (by omega)
    rw [show 64 * (p / 64) + p % 64 = p by omega] at y3 y4
    have d2 : bsV (prF t a o) (p + 1) = if bsV (prF t a o) p < prF t a o p then prF t a o p else bsV (prF t a o) p := rfl
    have d0 : bsC (prF t a o) 0 (p + 1) = if bsV (prF t a o) p < prF t a o p then (p : Int) else bsC (prF t a o) 0 p := rfl
    rw [e_X12_pair_55, h24, h25, em, xg_pos (by omega), xg_pos (by omega), if_pos (by omega), xg_pos (by omega), y4, y3]
    by_cases cM : ((p % 64 : Nat) : Int) < t 0 * t 1
    · have hx : 0 ≤ ((p / 64 : Nat) : Int) ∧ ((p / 64 : Nat) : Int) ≤ 63 := by omega
      have hy : 0 ≤ ((p % 64 : Nat) : Int) ∧ ((p % 64 : Nat) : Int) ≤ 63 := by omega
      have fe : prF t a o p = fsV t (yari 8 (pbV t a o ((p / 64 : Nat) : Int) ((p % 64 : Nat) : Int)) (pbV t o a ((p % 64 : Nat) : Int) ((p / 64 : Nat) : Int))) := if_pos cM
      obtain ⟨x, ex⟩ : ∃ x : Int, x = ((p / 64 : Nat) : Int) := ⟨_, rfl⟩
      obtain ⟨y, ey⟩ : ∃ y : Int, y = ((p % 64 : Nat) : Int) := ⟨_, rfl⟩
      rw [← ex, ← ey] at fe
      rw [← ex] at hx y3
      rw [← ey] at hy y4 cM
      rw [← ex, ← ey]
      have T1 := T.up (Or.inl rfl) (T.1.cell (b := a) (x := x) (by omega))
      have T2 : tst s t (tU (tU t (31 + 3 * a) x) (31 + 3 * o) y) (zup (zup g 10 a x) 10 o y) := T1.up (Or.inl rfl) (T1.1.cell (b := o) (x := y) (by omega))
      have W1 : tW0 (tU t (31 + 3 * a) x) := tU_W hW ⟨a, by omega, Or.inl ⟨rfl, hx⟩⟩
      have W2 : tW0 (tU (tU t (31 + 3 * a) x) (31 + 3 * o) y) := tU_W W1 ⟨o, by omega, Or.inl ⟨rfl, hy⟩⟩
      obtain ⟨u, eu⟩ : ∃ u : Nat → Int, u = tU (tU t (31 + 3 * a) x) (31 + 3 * o) y := ⟨_, rfl⟩
      rw [← eu] at T2 W2
      have ue : ∀ i, i ≠ 31 + 3 * a → i ≠ 31 + 3 * o → u i = t i := fun i q1 q2 => by rw [eu, tU_ne q2, tU_ne q1]
      have uo : u (31 + 3 * o) = y := by rw [eu, tU_at]
      have ua : u (31 + 3 * a) = x := by rw [eu, tU_ne (by omega), tU_at]
      have w1 := wv_o (a := a) (o := o) (x := x) (y := y) (u := u) hW ha ho hao ue uo
      have w2 := wv_o (a := o) (o := a) (x := y) (y := x) (u := u) hW ho ha (fun q => hao q.symm) (fun i q1 q2 => ue i q2 q1) ua
      have cl : ∀ (b : Nat) (z : Int) (W : Int), b = a ∨ b = o → bcn (hst u z (t (32 + 3 * b)) b (t 6).toNat) = W → ∀ k : Nat, cld t u b z (t (19 + 3 * k)) = (nr t b z (t (19 + 3 * k)) && decide (lawV t b 1 ≤ W)) := fun b z W hb hw k => by
        unfold cld nr
        rw [ue 0 (by omega) (by omega), ue 2 (by omega) (by omega), ue 3 (by omega) (by omega), ue 6 (by omega) (by omega), ue (32 + 3 * b) (by omega) (by omega), hw]
      have g10a : (zup (zup g 10 a x) 10 o y) 10 a = x := by rw [zup_ne (by omega), zup_at]
      have s1 := sfR_e (n := n) (by omega) T2 hW W2 (show (a : Int) < u 6 by rw [ue 6 (by omega) (by omega)]; exact ha) hx g10a (cl a x _ (Or.inl rfl) w1)
      have s2 := sfR_e (n := n) (by omega) T2 hW W2 (show (o : Int) < u 6 by rw [ue 6 (by omega) (by omega)]; exact ho) hy (zup_at _ _ _ _) (cl o y _ (Or.inr rfl) w2)
      have b1 := pbV_b (t := t) (a := a) (o := o) (x := x) (y := y) hW
      have b2 := pbV_b (t := t) (a := o) (o := a) (x := y) (y := x) hW
      have b3 := or15 b1 b2
      have fo := fsR_e (n := n) (x := yari 8 (pbV t a o x y) (pbV t o a y x)) (by omega) T2 hW (by omega)
      rw [← fe] at fo
      have nx := ih (p + 1) n (zup (zup g 10 a x) 10 o y) (by omega) (by omega) (prG.s hao H)
      rw [if_pos cM, xg_pos h30, xg_pos (by omega), xg_pos hx, xg_pos h30, xg_pos (by omega), xg_pos hy, Int.toNat_natCast a, Int.toNat_natCast o, H.2]
      have s1' : f_X12_shoalsFrom n [35, (a : Int)] (zup (zup g 10 a x) 10 o y) = some (pbV t a o x y, zup (zup g 10 a x) 10 o y) := s1
      have s2' : f_X12_shoalsFrom n [35, (o : Int)] (zup (zup g 10 a x) 10 o y) = some (pbV t o a y x, zup (zup g 10 a x) 10 o y) := s2
      rw [s1', xb_some, s2', xb_some, fo, xb_some]
      by_cases c : bsV (prF t a o) p < prF t a o p
      · rw [if_pos c] at d2 d0
        rw [d2, d0] at nx
        rw [if_pos c, gr_e, xb_some, Int.max_eq_right (by omega), xg_pos (by omega), show (p : Int) + 1 = ((p + 1 : Nat) : Int) by omega]
        exact nx
      · rw [if_neg c] at d2 d0
        rw [d2, d0] at nx
        rw [if_neg c, gr_e, xb_some, Int.max_eq_left (by omega), xg_pos (by omega), show (p : Int) + 1 = ((p + 1 : Nat) : Int) by omega]
        exact nx
    · have e : prF t a o p = -1 := if_neg cM
      have bg := bsV_g (f := prF t a o) p
      have c : ¬ (bsV (prF t a o) p < prF t a o p) := by omega
      rw [if_neg c] at d2 d0
      have nx := ih (p + 1) n G (by omega) (by omega) H
      rw [d2, d0] at nx
      rw [if_neg cM, xg_pos (by omega), show (p : Int) + 1 = ((p + 1 : Nat) : Int) by omega]
      exact nx
/-- what pair answers -/
def prV (t : Nat → Int) (x y w : Int) : Int := if ((0 ≤ x ∧ x < t 6) ∧ 0 ≤ y ∧ y < t 6) ∧ x ≠ y then (if w = 0 then yari 3 (bsC (prF t x.toNat y.toNat) 0 (64 * (t 0 * t 1).toNat)) 64 else if w = 1 then yari 4 (bsC (prF t x.toNat y.toNat) 0 (64 * (t 0 * t 1).toNat)) 64 else bsV (prF t x.toNat y.toNat) (64 * (t 0 * t 1).toNat)) else -1
theorem prR_e {m s : Nat} {x y w : Int} {t : Nat → Int} {g : yH} (hn : 4400 ≤ m) (hw : 0 ≤ w ∧ w ≤ 2) (hq : rQ g) (h4 : ∀ j, j < 12 → 0 ≤ g 4 j ∧ g 4 j ≤ 2) (hs : (s : Int) < g 4 0) (ht : ∀ j, j < 50 → g 5 (50 * s + j) = t j) (hW : tW0 t) : yR (f_X12_pair m [35, (s : Int), x, y, w] g) (fun v g2 => v = prV t x y w ∧ ∃ g1, lyR s t (zup g 35 0 0) g1 ∧ ∀ a j, a ≠ 10 → g2 a j = g1 a j) := by
  have Mb := M_b hW
  have w6 := hW.wd.2.2.2.2
  refine yR.e e_X12_pair ?_
  rw [in_t hw, xb_some, if_neg (by decide)]
  refine yR.b (layTold_e (by omega) (c0_q hq) (c0_4 h4) (by rw [zup_ne (by omega)]; exact hs) (fun j hj => by rw [zup_ne (by omega)]; exact ht j hj) hW) (fun v g1 ⟨rv, H⟩ => ?_)
  subst rv
  refine yR.f (by decide) ?_
  rw [isBoat_e H.1.1.2.2.2.2.2.2.1 hW, xb_some]
  unfold prV
  by_cases c : 0 ≤ x ∧ x < t 6
  · rw [if_pos c, if_neg (by decide), isBoat_e H.1.1.2.2.2.2.2.2.1 hW, xb_some]
    by_cases c2 : 0 ≤ y ∧ y < t 6
    · rw [if_pos c2, if_neg (by decide)]
      by_cases c3 : x = y
      · rw [if_pos c3, if_neg (by exact fun q => q.2 c3)]
        exact yR.s ⟨rfl, g1, H, fun _ _ _ => rfl⟩
      · obtain ⟨a, rfl⟩ : ∃ a : Nat, x = (a : Int) := ⟨x.toNat, by omega⟩
        obtain ⟨o, rfl⟩ : ∃ o : Nat, y = (o : Int) := ⟨y.toNat, by omega⟩
        have l := prR_l (x1 := (s : Int)) (x4 := w) H.1 hW c.2 c2.2 (show o ≠ a by omega) (64 * (t 0 * t 1).toNat) 0 m g1 (by omega) (by omega) prG.r
        rw [if_neg c3, if_pos (by exact ⟨⟨c, c2⟩, c3⟩), Int.toNat_natCast, Int.toNat_natCast]
        exact l.m (fun r g2 ⟨r1, r2⟩ => ⟨r1, g1, H, r2⟩)
    · rw [if_neg c2, if_pos rfl, if_neg (by exact fun q => c2 q.1.2)]
      exact yR.s ⟨rfl, g1, H, fun _ _ _ => rfl⟩
  · rw [if_neg c, if_pos rfl, if_neg (by exact fun q => c q.1.1)]
    exact yR.s ⟨rfl, g1, H, fun _ _ _ => rfl⟩
theorem RR_pair {m n : Nat} {x y z w : Int} {h g : yH} (hn : 4400 ≤ n) (hm2 : 4400 ≤ m) (R : RR True h g) (h15 : h 1 5 = 170) (hc : cPc h) (hL : lnI h) (hm : h 4 1 ≤ 600) (hq : rQ g) (h4 : ∀ j, j < 12 → 0 ≤ g 4 j ∧ g 4 j ≤ 2) : ∃ v h2 g2, f_X11_pair n [1, x, y, z, w] h = some (v, h2) ∧ f_X12_pair m [35, x, y, z, w] g = some (v, g2) ∧ chK h g h2 g2 := by
  have hP := R.1
  have n0 := R.n6 (j := 0) (by decide)
  have b0 := h4 0 (by decide)
  have p3 : h 1 0 = 3 := hP.p (by decide)
  -- what the class answers where it doesn't ask
  have cN : ¬ (0 ≤ w ∧ w ≤ 2) → f_X11_pair n [1, x, y, z, w] h = some (-1, h) := fun cw => by
    rw [e_X11_pair, xg_pos p3, findSea_e hP (by omega), xb_some]
    by_cases c : 0 ≤ x ∧ x < h 6 0
    · obtain ⟨s, rfl⟩ : ∃ s : Nat, x = (s : Int) := ⟨x.toNat, by omega⟩
      obtain ⟨t, hS, hp, ht, hW⟩ := R.sea (s := s) (by omega) (by omega)
      rw [if_pos c, if_neg (by omega), show 20 + 10 * (s : Int) = ((20 + 10 * s : Nat) : Int) by omega]
      by_cases c3 : y = z
      · rw [if_pos c3]
      · rw [if_neg c3, xg_pos (by omega), hasBoat_e hS, xb_some]
        by_cases c1 : 0 ≤ y ∧ y < t 6
        · rw [if_pos c1, if_neg (by decide), xg_pos (by omega), hasBoat_e hS, xb_some]
          by_cases c2 : 0 ≤ z ∧ z < t 6
          · rw [if_pos c2, if_neg (by decide)]
            by_cases c4 : w < 0
            · rw [if_pos c4]
            · rw [if_neg c4, if_pos (by omega)]
          · rw [if_neg c2, if_pos rfl]
        · rw [if_neg c1, if_pos rfl]
    · rw [if_neg c, if_pos (by decide)]
  by_cases cw : 0 ≤ w ∧ w ≤ 2
  · by_cases c : 0 ≤ x ∧ x < g 4 0
    · obtain ⟨s, rfl⟩ : ∃ s : Nat, x = (s : Int) := ⟨x.toNat, by omega⟩
      obtain ⟨t, hS, hp, ht, hW⟩ := R.sea (s := s) (by omega) c.2
      obtain ⟨v, g2, e2, rv, g1, H, fr⟩ := prR_e (m := m) (x := y) (y := z) (w := w) hm2 cw hq h4 c.2 ht hW
      have fr' : ∀ i j, i ≠ 10 → i ≠ 26 → i ≠ 27 → i ≠ 28 → g2 i j = g1 i j := fun i j w1 _ _ _ => fr i j w1
      unfold prV at rv
      by_cases c3 : y = z
      · rw [if_neg (by exact fun q => q.2 c3)] at rv
        refine ⟨v, h, g2, ?_, e2, chK.l R hL hm H fr' hc (fun _ _ _ => rfl)⟩
        rw [e_X11_pair, xg_pos p3, findSea_e hP (by omega), xb_some, if_pos (show 0 ≤ (s : Int) ∧ (s : Int) < h 6 0 by omega), if_neg (by omega), if_pos c3, rv]
      · by_cases c1 : 0 ≤ y ∧ y < t 6
        · by_cases c2 : 0 ≤ z ∧ z < t 6
          · obtain ⟨a, rfl⟩ : ∃ a : Nat, y = (a : Int) := ⟨y.toNat, by omega⟩
            obtain ⟨o, rfl⟩ : ∃ o : Nat, z = (o : Int) := ⟨z.toNat, by omega⟩
            rw [if_pos (by exact ⟨⟨c1, c2⟩, c3⟩), Int.toNat_natCast, Int.toNat_natCast] at rv
            obtain ⟨h2, f1, f2, f3, f4, i, j, hi, hj, f5, f6, f7⟩ := prC_e (n := n) hn (show 20 + 10 * s + 8 ≤ 170 by omega) hW c1.2 c2.2 hS hp hc
            obtain ⟨y3, y4⟩ := yq64 hi hj
            rw [f7, y3, y4] at rv
            refine ⟨v, h2, g2, ?_, e2, chK.l R hL hm H fr' f3 f2⟩
            have k15 : h2 1 5 = 170 := (f2 _ _ (by omega)).trans h15
            rw [e_X11_pair, xg_pos p3, findSea_e hP (by omega), xb_some, if_pos (show 0 ≤ (s : Int) ∧ (s : Int) < h 6 0 by omega), if_neg (by omega), if_neg c3, xg_pos (by omega), show 20 + 10 * (s : Int) = ((20 + 10 * s : Nat) : Int) by omega, hasBoat_e hS, xb_some, if_pos c1, if_neg (by decide), xg_pos (by omega), hasBoat_e hS, xb_some, if_pos c2, if_neg (by decide), if_neg (by omega), if_neg (by omega), xg_pos h15, xg_pos (by omega), f1, xb_some, rv]
            by_cases k2 : w = 2
            · rw [if_pos k2, xg_pos k15, f4, if_neg (by omega), if_neg (by omega)]
            · rw [if_neg k2]
              by_cases k0 : w = 0
              · rw [if_pos k0, if_pos k0, xg_pos k15, f5]
              · rw [if_neg k0, if_neg k0, xg_pos k15, f6, if_pos (by omega)]
          · rw [if_neg (by exact fun q => c2 q.1.2)] at rv
            refine ⟨v, h, g2, ?_, e2, chK.l R hL hm H fr' hc (fun _ _ _ => rfl)⟩
            rw [e_X11_pair, xg_pos p3, findSea_e hP (by omega), xb_some, if_pos (show 0 ≤ (s : Int) ∧ (s : Int) < h 6 0 by omega), if_neg (by omega), if_neg c3, xg_pos (by omega), show 20 + 10 * (s : Int) = ((20 + 10 * s : Nat) : Int) by omega, hasBoat_e hS, xb_some, if_pos c1, if_neg (by decide), xg_pos (by omega), hasBoat_e hS, xb_some, if_neg c2, if_pos rfl, rv]
        · rw [if_neg (by exact fun q => c1 q.1.1)] at rv
          refine ⟨v, h, g2, ?_, e2, chK.l R hL hm H fr' hc (fun _ _ _ => rfl)⟩
          rw [e_X11_pair, xg_pos p3, findSea_e hP (by omega), xb_some, if_pos (show 0 ≤ (s : Int) ∧ (s : Int) < h 6 0 by omega), if_neg (by omega), if_neg c3, xg_pos (by omega), show 20 + 10 * (s : Int) = ((20 + 10 * s : Nat) : Int) by omega, hasBoat_e hS, xb_some, if_neg c1, if_pos rfl, rv]
    · refine ⟨-1, h, zup g 35 0 0, ?_, ?_, chK.n R hL hm hc⟩
      · rw [e_X11_pair, xg_pos p3, findSea_e hP (by omega), xb_some, if_neg (show ¬ (0 ≤ x ∧ x < h 6 0) by omega), if_pos (by decide)]
      · rw [e_X12_pair, in_t cw, xb_some, if_neg (by decide), layTold_n (c0_q hq) (c0_4 h4) (by rw [zup_ne (by omega)]; exact c), xb_some, if_pos rfl]
  · refine ⟨-1, h, zup g 35 0 0, cN cw, ?_, chK.n R hL hm hc⟩
    rw [e_X12_pair, in_f cw, xb_some, if_pos rfl]
end
section
/-! followed where the seas' contents are, and the days' pointers -/
def cDy (h : yH) : Prop := (h 1 3 = 130 ∧ cPr h) ∧ h 1 5 = 170 ∧ cPc h
theorem cDy.fr {h h2 : yH} (w : cDy h) (e : ∀ a j, (a = 1 ∧ (j = 3 ∨ j = 5)) ∨ a = 130 ∨ a = 131 ∨ a = 170 → h2 a j = h a j) : cDy h2 := ⟨⟨by rw [e _ _ (by omega)]; exact w.1.1, w.1.2.fr (fun a j q => e a j (by omega))⟩, by rw [e _ _ (by omega)]; exact w.2.1, w.2.2.fr (fun j _ _ => e 170 j (by omega))⟩
theorem frD_feed {n : Nat} {x1 x2 x3 x4 x5 v : Int} {h h2 : yH} (hn : 6 ≤ n) (hP : cP h) (hm : 0 ≤ h 4 1 ∧ h 4 1 ≤ 600) (e : f_X11_feed n [1, x1, x2, x3, x4, x5] h = some (v, h2)) (hw : cDy h) : cDy h2 := by
  obtain ⟨N, eN⟩ : ∃ N : Nat, h 4 1 = (N : Int) := ⟨(h 4 1).toNat, by omega⟩
  obtain ⟨v', h', e', -, r⟩ := feedC_r (n := n) (x1 := x1) (x2 := x2) (x3 := x3) (x4 := x4) (x5 := x5) hn hP eN (by omega)
  have ee := Option.some.inj (e.symm.trans e')
  have e2 : h2 = h' := congrArg Prod.snd ee
  rw [e2]
  rcases r with ⟨-, -, r⟩ | ⟨-, -, -, r⟩
  · rw [r]; exact hw
  · exact hw.fr (fun a j w => by rw [r a j (by omega), if_neg (by omega)])
theorem frD_end {n : Nat} {x v : Int} {h h2 : yH} (hP : cP h) (hm : 0 ≤ h 4 1 ∧ h 4 1 ≤ 600) (e : f_X11_end n [1, x] h = some (v, h2)) (hw : cDy h) : cDy h2 := by
  obtain ⟨v', h', e', r⟩ := endC_r (n := n) (x := x) hP hm
  have e2 : h2 = h' := congrArg Prod.snd (Option.some.inj (e.symm.trans e'))
  rw [e2]
  rcases r with ⟨-, -, r⟩ | ⟨-, -, r⟩
  · rw [r]; exact hw
  · exact hw.fr (fun a j w => by rw [r, zup_ne (by omega)])
theorem frD_text {n : Nat} {sort at_ v : Int} {h h2 : yH} (hn : 2800 ≤ n) (hP : cP h) (hm : 0 ≤ h 4 1 ∧ h 4 1 ≤ 600) (h6 : ∀ j, j < 3 → 0 ≤ h 6 j ∧ h 6 j ≤ 2) (e : f_X11_text n [1, sort, at_] h = some (v, h2)) (hw : cDy h) : cDy h2 := by
  obtain ⟨v', h', e', r⟩ := textC_e (u := fun i => yari 7 (h 5 i) 255) (N := (h 4 1).toNat) (n := n) (sort := sort) (at_ := at_) (t0 := tI sort.toNat) hn ⟨by omega, by omega, fun _ _ => rfl, hP⟩ h6 (fun _ _ => rfl)
  have e2 : h2 = h' := congrArg Prod.snd (Option.some.inj (e.symm.trans e'))
  rw [e2]
  exact hw.fr (fun a j w => r.2.2.1 a j (by omega) (by omega) (by omega))
def cW (h g : yH) : Prop := cPw h ∧ WH g ∧ cDy h
theorem cW.p {h g : yH} (w : cW h g) : cPw h := w.1
theorem cW.c {h h2 g : yH} (w : cW h g) (e : cPw h2) (d : cDy h2) : cW h2 g := ⟨e, w.2.1, d⟩
theorem cW.r {h g g2 : yH} (w : cW h g) (e : k7 g g2) : cW h g2 := ⟨w.1, w.2.1.k7 e, w.2.2⟩
/-- behind a question of a day -/
theorem cW.d {h h2 g g2 : yH} (w : cW h g) (d : dyK h g h2 g2) : cW h2 g2 := ⟨w.1.fr (fun a j q => d.2.2.1 a j (by omega)), w.2.1.k7 d.2.2.2, ⟨by rw [d.2.2.1 _ _ (by omega)]; exact w.2.2.1.1, d.2.1⟩, by rw [d.2.2.1 _ _ (by omega)]; exact w.2.2.2.1, w.2.2.2.2.fr (fun j _ _ => d.2.2.1 170 j (by omega))⟩
/-- behind a question of a choice -/
theorem cW.e {h h2 g g2 : yH} (w : cW h g) (d : chK h g h2 g2) : cW h2 g2 := ⟨w.1.fr (fun a j q => d.2.2.1 a j (by omega)), w.2.1.k7 d.2.2.2, ⟨by rw [d.2.2.1 _ _ (by omega)]; exact w.2.2.1.1, w.2.2.1.2.fr (fun a j q => d.2.2.1 a j (by omega))⟩, by rw [d.2.2.1 _ _ (by omega)]; exact w.2.2.2.1, d.2.1⟩
/-- what is told alike, and what else is followed -/
def RW (F : Prop) (h g : yH) : Prop := RR F h g ∧ (F → cW h g)
end
