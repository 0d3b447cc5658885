/-! sea, shoal, boat -/
theorem cP.sp {h : yH} (hP : cP h) {s : Nat} (hs : s < 2) : cSp (20 + 10 * s) h := by
  rcases (show s = 0 ∨ s = 1 by omega) with rfl | rfl
  · exact ⟨hP.p (a := 20) (j := 5) (v := 21) (by decide), hP.p (a := 20) (j := 7) (v := 22) (by decide), hP.p (a := 20) (j := 8) (v := 23) (by decide), hP.p (a := 20) (j := 9) (v := 24) (by decide), hP.p (a := 20) (j := 11) (v := 25) (by decide), hP.p (a := 20) (j := 12) (v := 26) (by decide), hP.p (a := 20) (j := 13) (v := 27) (by decide)⟩
  · exact ⟨hP.p (a := 30) (j := 5) (v := 31) (by decide), hP.p (a := 30) (j := 7) (v := 32) (by decide), hP.p (a := 30) (j := 8) (v := 33) (by decide), hP.p (a := 30) (j := 9) (v := 34) (by decide), hP.p (a := 30) (j := 11) (v := 35) (by decide), hP.p (a := 30) (j := 12) (v := 36) (by decide), hP.p (a := 30) (j := 13) (v := 37) (by decide)⟩
theorem RR.sea {h g : yH} (R : RR True h g) {s : Nat} (hs : s < 2) (hm : (s : Int) < g 4 0) : ∃ t : Nat → Int, cS (20 + 10 * s) t h ∧ cSp (20 + 10 * s) h ∧ (∀ j, j < 50 → g 5 (50 * s + j) = t j) ∧ tW0 t := by
  obtain ⟨t, a1, a2, a3⟩ := R.2.2.1.2.2.2.2.2.1 s hs
  have b1 := a1 trivial
  rw [show 0 + 20 + 10 * s = 20 + 10 * s by omega] at b1
  exact ⟨t, b1, R.1.sp hs, fun j hj => by rw [← a2 j hj, show 100 * 0 + 50 * s + j = 50 * s + j by omega], a3 hm⟩
/-- after a sea is in hand all is told as before -/
theorem RR.hd {F : Prop} {s : Nat} {t : Nat → Int} {h g g2 : yH} (R : RR F h g) (hL : lnI h) (hm : h 4 1 ≤ 600) (H : hdR s t g g2) : RR F h g2 := R.gf hL hm H.1.2.2.2.P (fun a j w => H.2.2.2 a j (by omega) (by omega) (by omega))
theorem c0_q {g : yH} (hq : rQ g) : rQ (zup g 35 0 0) := hq.up (Or.inr (by decide))
theorem c0_4 {g : yH} (h4 : ∀ j, j < 12 → 0 ≤ g 4 j ∧ g 4 j ≤ 2) : ∀ j, j < 12 → 0 ≤ (zup g 35 0 0) 4 j ∧ (zup g 35 0 0) 4 j ≤ 2 := fun j hj => by
  rw [zup_ne (by omega)]
  exact h4 j hj
/-- a question to a sea: where there is none such both say the same; where there is one, what each says of it -/
theorem RR_ask {k : Nat} {c r : yFn} {x none' : Int} {As : List Int} {m n : Nat} {h g : yH} (R : RR True h g) (hL : lnI h) (hm : h 4 1 ≤ 600) (hq : rQ g) (h4 : ∀ j, j < 12 → 0 ≤ g 4 j ∧ g 4 j ≤ 2)
    (cn : ¬ (0 ≤ x ∧ x < h 6 0) → c n (1 :: x :: As) h = some (none', h)) (rn : ¬ (0 ≤ x ∧ x < g 4 0) → yR (r m (35 :: x :: As) g) (fun v g2 => v = none' ∧ RR True h g2))
    (ask : ∀ (s : Nat) (t : Nat → Int), x = (s : Int) → s < 2 → (s : Int) < h 6 0 → (s : Int) < g 4 0 → tW0 t → cS (20 + 10 * s) t h → cSp (20 + 10 * s) h → (∀ j, j < 50 → g 5 (50 * s + j) = t j) → ∃ v h2 g2, c n (1 :: x :: As) h = some (v, h2) ∧ r m (35 :: x :: As) g = some (v, g2) ∧ RR True h2 g2 ∧ ∀ a j, h2 a j = h a j) :
    ∃ v h2 g2, c n (1 :: x :: As) h = some (v, h2) ∧ r m (35 :: x :: As) g = some (v, g2) ∧ RR True h2 g2 ∧ ∀ a j, h2 a j = h a j := by
  have n0 := R.n6 (j := 0) (by decide)
  have b0 := h4 0 (by decide)
  by_cases w : 0 ≤ x ∧ x < h 6 0
  · obtain ⟨s, rfl⟩ : ∃ s : Nat, x = (s : Int) := ⟨x.toNat, by omega⟩
    obtain ⟨t, a1, a2, a3, a4⟩ := R.sea (s := s) (by omega) (by omega)
    exact ask s t rfl (by omega) w.2 (by omega) a4 a1 a2 a3
  · obtain ⟨v, g2, e2, rfl, R2⟩ := rn (by omega)
    exact ⟨_, h, g2, cn w, e2, R2, fun _ _ => rfl⟩
/-- what sea answers -/
def seaV (t : Nat → Int) (w : Int) : Int := if 0 ≤ w ∧ w ≤ 6 then t w.toNat else if 10 ≤ w ∧ w ≤ 21 then t (7 + (w.toNat - 10)) else -1
theorem seaC_e {n s : Nat} {w : Int} {t : Nat → Int} {h : yH} (hP : cP h) (hb : h 6 0 ≤ 2) (hs : (s : Int) < h 6 0) (hS : cS (20 + 10 * s) t h) : f_X11_sea n [1, (s : Int), w] h = some (seaV t w, h) := by
  have sp := hP.sp (s := s) (by omega)
  obtain ⟨a0, a1, a2, a3, a4, a5, a6, a7, a8, a9, a10⟩ := hS
  rw [e_X11_sea, xg_pos (hP.p (by decide)), findSea_e hP hb, xb_some, if_pos (show 0 ≤ (s : Int) ∧ (s : Int) < h 6 0 by omega), if_neg (by omega), show (20 + 10 * (s : Int)).toNat = 20 + 10 * s by omega, show (20 + 10 * (s : Int) + 1).toNat = 20 + 10 * s + 1 by omega]
  unfold seaV
  by_cases c0 : w = 0
  · rw [if_pos c0, xg_pos (by omega), if_pos (by omega), a0, c0]; rfl
  rw [if_neg c0]
  by_cases c1 : w = 1
  · rw [if_pos c1, xg_pos (by omega), if_pos (by omega), a1, c1]; rfl
  rw [if_neg c1]
  by_cases c2 : w = 2
  · rw [if_pos c2, xg_pos (by omega), if_pos (by omega), a2, c2]; rfl
  rw [if_neg c2]
  by_cases c3 : w = 3
  · rw [if_pos c3, xg_pos (by omega), if_pos (by omega), a3, c3]; rfl
  rw [if_neg c3]
  by_cases c4 : w = 4
  · rw [if_pos c4, xg_pos (by omega), if_pos (by omega), a4, c4]; rfl
  rw [if_neg c4]
  by_cases c5 : w = 5
  · rw [if_pos c5, xg_pos (by omega), if_pos (by omega), a5, c5]; rfl
  rw [if_neg c5]
  by_cases c6 : w = 6
  · rw [if_pos c6, xg_pos (by omega), if_pos (by omega), a6, c6]; rfl
  rw [if_neg c6, if_neg (show ¬ (0 ≤ w ∧ w ≤ 6) by omega)]
  by_cases c7 : w < 10
  · rw [if_pos c7, if_neg (by omega)]
  · rw [if_neg c7]
    by_cases c8 : w < 22
    · rw [if_pos c8, xg_pos (by omega), xg_pos (by rw [sp.1]; omega), xg_pos (by omega), xg_pos (by omega), if_pos (by omega), show (w - 10).toNat = w.toNat - 10 by omega, a8 _ (by omega)]
    · rw [if_neg c8, if_neg (by omega)]
theorem seaR_e {m s : Nat} {w : Int} {t : Nat → Int} {g : yH} (hn : 7 ≤ m) (hq : rQ g) (h4 : ∀ j, j < 12 → 0 ≤ g 4 j ∧ g 4 j ≤ 2) (hs : (s : Int) < g 4 0) (ht : ∀ j, j < 50 → g 5 (50 * s + j) = t j) (hW : tW0 t) : yR (f_X12_sea m [35, (s : Int), w] g) (fun v g2 => v = seaV t w ∧ hdR s t (zup g 35 0 0) g2) := by
  refine yR.e e_X12_sea ?_
  refine yR.b (hand_e hn (c0_q hq) (c0_4 h4) (by rw [zup_ne (by omega)]; exact hs) (fun j hj => by rw [zup_ne (by omega)]; exact ht j hj) hW) (fun v g2 ⟨rv, H⟩ => ?_)
  subst rv
  refine yR.f (by decide) ?_
  unfold seaV
  by_cases c1 : 0 ≤ w ∧ w ≤ 6
  · rw [in_t c1, xb_some, if_neg (by decide), e_X12_sea_34, if_pos (by omega), of_e H.1 (k := w.toNat) (by omega) (by omega), xb_some, if_pos c1]
    exact yR.s ⟨rfl, H⟩
  · rw [in_f c1, xb_some, if_pos rfl, if_neg c1]
    by_cases c2 : 10 ≤ w ∧ w ≤ 21
    · rw [in_t c2, xb_some, if_neg (by decide), e_X12_sea_34, if_neg (by omega), xg_pos (by omega), xg_pos (by omega), of_e H.1 (k := 7 + (w.toNat - 10)) (by omega) (by omega), xb_some, if_pos c2]
      exact yR.s ⟨rfl, H⟩
    · rw [in_f c2, xb_some, if_pos rfl, if_neg c2]
      exact yR.s ⟨rfl, H⟩
theorem RR_sea {m n : Nat} {x w : Int} {h g : yH} (hn : 7 ≤ m) (R : RR True h g) (hL : lnI h) (hm : h 4 1 ≤ 600) (hq : rQ g) (h4 : ∀ j, j < 12 → 0 ≤ g 4 j ∧ g 4 j ≤ 2) : ∃ v h2 g2, f_X11_sea n [1, x, w] h = some (v, h2) ∧ f_X12_sea m [35, x, w] g = some (v, g2) ∧ RR True h2 g2 ∧ ∀ a j, h2 a j = h a j := by
  have hP := R.1
  have n0 := R.n6 (j := 0) (by decide)
  have b0 := h4 0 (by decide)
  refine RR_ask (k := 0) (none' := -1) R hL hm hq h4 (fun c => ?_) (fun c => ?_) (fun s t e hs h6 h4' hW hS hp ht => ?_)
  · rw [e_X11_sea, xg_pos (hP.p (by decide)), findSea_e hP (by omega), xb_some, if_neg c, if_pos (by decide)]
  · refine ⟨-1, zup g 35 0 0, ?_, rfl, R.c0 hL hm⟩
    rw [e_X12_sea, hand_n (c0_q hq) (c0_4 h4) (by rw [zup_ne (by omega)]; exact c), xb_some, if_pos rfl]
  · subst e
    obtain ⟨v, g2, e2, rv, H⟩ := seaR_e (m := m) (w := w) hn hq h4 h4' ht hW
    subst rv
    exact ⟨_, h, g2, seaC_e hP (by omega) h6 hS, e2, (R.c0 hL hm).hd hL hm H, fun _ _ => rfl⟩
/-- what shoal answers -/
def shoalV (t : Nat → Int) (k w : Int) : Int := if 0 ≤ k ∧ k < t 5 ∧ 0 ≤ w ∧ w ≤ 2 then t (19 + 3 * k.toNat + w.toNat) else -1
theorem hasShoal_e {n b : Nat} {k : Int} {t : Nat → Int} {h : yH} (hS : cS b t h) : f_X6_hasShoal n [(b : Int), k] h = some (if 0 ≤ k ∧ k < t 5 then 1 else 0, h) := by
  rw [e_X6_hasShoal, Int.toNat_natCast, hS.2.2.2.2.2.1]
  by_cases c : k < 0
  · rw [if_pos c, if_neg (by omega)]
  · rw [if_neg c]
    by_cases c2 : k < t 5
    · rw [if_pos c2, if_pos (by omega)]
    · rw [if_neg c2, if_neg (by omega)]
theorem hasBoat_e {n b : Nat} {k : Int} {t : Nat → Int} {h : yH} (hS : cS b t h) : f_X6_hasBoat n [(b : Int), k] h = some (if 0 ≤ k ∧ k < t 6 then 1 else 0, h) := by
  rw [e_X6_hasBoat, Int.toNat_natCast, hS.2.2.2.2.2.2.1]
  by_cases c : k < 0
  · rw [if_pos c, if_neg (by omega)]
  · rw [if_neg c]
    by_cases c2 : k < t 6
    · rw [if_pos c2, if_pos (by omega)]
    · rw [if_neg c2, if_neg (by omega)]
theorem shoalC_e {n s : Nat} {k w : Int} {t : Nat → Int} {h : yH} (hP : cP h) (hb : h 6 0 ≤ 2) (hs : (s : Int) < h 6 0) (hS : cS (20 + 10 * s) t h) (hW : tW0 t) : f_X11_shoal n [1, (s : Int), k, w] h = some (shoalV t k w, h) := by
  have sp := hP.sp (s := s) (by omega)
  have w5 := hW.2.2.2.2.2.1
  have a9 := hS.2.2.2.2.2.2.2.2.2.1
  rw [e_X11_shoal, xg_pos (hP.p (by decide)), findSea_e hP hb, xb_some, if_pos (show 0 ≤ (s : Int) ∧ (s : Int) < h 6 0 by omega), if_neg (by omega), xg_pos (by omega), show 20 + 10 * (s : Int) = ((20 + 10 * s : Nat) : Int) by omega, hasShoal_e hS, xb_some]
  unfold shoalV
  by_cases c1 : 0 ≤ k ∧ k < t 5
  · obtain ⟨q1, q2, q3⟩ := a9 k.toNat (by omega)
    have e2 : (((20 + 10 * s : Nat) : Int) + 2).toNat = 20 + 10 * s + 2 := by omega
    have e3 : (((20 + 10 * s : Nat) : Int) + 3).toNat = 20 + 10 * s + 3 := by omega
    have e4 : (((20 + 10 * s : Nat) : Int) + 4).toNat = 20 + 10 * s + 4 := by omega
    rw [if_pos c1, if_neg (by decide), Int.toNat_natCast, e2, e3, e4]
    by_cases d0 : w = 0
    · rw [if_pos d0, xg_pos (by omega), xg_pos sp.2.1, xg_pos (by omega), q1, if_pos (by omega), d0]; rfl
    rw [if_neg d0]
    by_cases d1 : w = 1
    · rw [if_pos d1, xg_pos (by omega), xg_pos sp.2.2.1, xg_pos (by omega), q2, if_pos (by omega), d1, show 19 + 3 * k.toNat + (1 : Int).toNat = 20 + 3 * k.toNat by omega]
    rw [if_neg d1]
    by_cases d2 : w = 2
    · rw [if_pos d2, xg_pos (by omega), xg_pos sp.2.2.2.1, xg_pos (by omega), q3, if_pos (by omega), d2, show 19 + 3 * k.toNat + (2 : Int).toNat = 21 + 3 * k.toNat by omega]
    rw [if_neg d2, if_neg (by omega)]
  · rw [if_neg c1, if_pos rfl, if_neg (by omega)]
theorem shoalR_e {m s : Nat} {k w : Int} {t : Nat → Int} {g : yH} (hn : 7 ≤ m) (hq : rQ g) (h4 : ∀ j, j < 12 → 0 ≤ g 4 j ∧ g 4 j ≤ 2) (hs : (s : Int) < g 4 0) (ht : ∀ j, j < 50 → g 5 (50 * s + j) = t j) (hW : tW0 t) : yR (f_X12_shoal m [35, (s : Int), k, w] g) (fun v g2 => v = shoalV t k w ∧ hdR s t (zup g 35 0 0) g2) := by
  have w5 := hW.2.2.2.2.2.1
  refine yR.e e_X12_shoal ?_
  refine yR.b (hand_e hn (c0_q hq) (c0_4 h4) (by rw [zup_ne (by omega)]; exact hs) (fun j hj => by rw [zup_ne (by omega)]; exact ht j hj) hW) (fun v g2 ⟨rv, H⟩ => ?_)
  subst rv
  refine yR.f (by decide) ?_
  rw [H.2.1.2.2.2.2.1]
  refine yR.g (by omega) ?_
  unfold shoalV
  by_cases c1 : 0 ≤ k ∧ k ≤ t 5 - 1
  · rw [in_t c1, xb_some, if_neg (by decide)]
    by_cases c2 : 0 ≤ w ∧ w ≤ 2
    · rw [in_t c2, xb_some, if_neg (by decide), xg_pos (by omega), xg_pos (by omega), xg_pos (by omega), of_e H.1 (k := 19 + 3 * k.toNat + w.toNat) (by omega) (by omega), xb_some, if_pos (by omega)]
      exact yR.s ⟨rfl, H⟩
    · rw [in_f c2, xb_some, if_pos rfl, if_neg (by omega)]
      exact yR.s ⟨rfl, H⟩
  · rw [in_f c1, xb_some, if_pos rfl, if_neg (by omega)]
    exact yR.s ⟨rfl, H⟩
theorem RR_shoal {m n : Nat} {x k w : Int} {h g : yH} (hn : 7 ≤ m) (R : RR True h g) (hL : lnI h) (hm : h 4 1 ≤ 600) (hq : rQ g) (h4 : ∀ j, j < 12 → 0 ≤ g 4 j ∧ g 4 j ≤ 2) : ∃ v h2 g2, f_X11_shoal n [1, x, k, w] h = some (v, h2) ∧ f_X12_shoal m [35, x, k, w] g = some (v, g2) ∧ RR True h2 g2 ∧ ∀ a j, h2 a j = h a j := by
  have hP := R.1
  have n0 := R.n6 (j := 0) (by decide)
  have b0 := h4 0 (by decide)
  refine RR_ask (k := 0) (none' := -1) R hL hm hq h4 (fun c => ?_) (fun c => ?_) (fun s t e hs h6 h4' hW hS hp ht => ?_)
  · rw [e_X11_shoal, xg_pos (hP.p (by decide)), findSea_e hP (by omega), xb_some, if_neg c, if_pos (by decide)]
  · refine ⟨-1, zup g 35 0 0, ?_, rfl, R.c0 hL hm⟩
    rw [e_X12_shoal, hand_n (c0_q hq) (c0_4 h4) (by rw [zup_ne (by omega)]; exact c), xb_some, if_pos rfl]
  · subst e
    obtain ⟨v, g2, e2, rv, H⟩ := shoalR_e (m := m) (k := k) (w := w) hn hq h4 h4' ht hW
    subst rv
    exact ⟨_, h, g2, shoalC_e hP (by omega) h6 hS hW, e2, (R.c0 hL hm).hd hL hm H, fun _ _ => rfl⟩
/-! bits -/
theorem bit_01 (x : Int) : yari 7 x 1 = 0 ∨ yari 7 x 1 = 1 := by
  unfold yari
  show ((Int32.ofInt x) &&& (Int32.ofInt 1)).toInt = 0 ∨ ((Int32.ofInt x) &&& (Int32.ofInt 1)).toInt = 1
  generalize Int32.ofInt x = a
  have h : (a &&& (Int32.ofInt 1)) = 0 ∨ (a &&& (Int32.ofInt 1)) = 1 := by
    have e1 : (Int32.ofInt 1).toBitVec = 1#32 := by decide
    have h2 : (a &&& (Int32.ofInt 1)).toBitVec = a.toBitVec &&& 1#32 := by rw [Int32.toBitVec_and, e1]
    have h3 : a.toBitVec &&& 1#32 = 0#32 ∨ a.toBitVec &&& 1#32 = 1#32 := by
      have : (a.toBitVec &&& 1#32).toNat = a.toBitVec.toNat % 2 := by
        rw [BitVec.toNat_and]
        show a.toBitVec.toNat &&& 1 = _
        exact Nat.and_one_is_mod _
      rcases Nat.mod_two_eq_zero_or_one a.toBitVec.toNat with w | w
      · left
        apply BitVec.eq_of_toNat_eq
        rw [this, w]
        rfl
      · right
        apply BitVec.eq_of_toNat_eq
        rw [this, w]
        rfl
    rcases h3 with h3 | h3
    · left
      apply Int32.toBitVec_inj.mp
      rw [h2, h3]
      rfl
    · right
      apply Int32.toBitVec_inj.mp
      rw [h2, h3]
      rfl
  rcases h with h | h
  · left; rw [h]; rfl
  · right; rw [h]; rfl
/-- what boat answers -/
def boatV (t : Nat → Int) (b w : Int) : Int := if 0 ≤ b ∧ b < t 6 ∧ 0 ≤ w ∧ w ≤ 3 then (if w = 3 then yari 7 (yari 6 (t 49) b) 1 else t (31 + 3 * b.toNat + w.toNat)) else -1
theorem boatC_e {n s : Nat} {k w : Int} {t : Nat → Int} {h : yH} (hP : cP h) (hb : h 6 0 ≤ 2) (hs : (s : Int) < h 6 0) (hS : cS (20 + 10 * s) t h) (hW : tW0 t) : f_X11_boat n [1, (s : Int), k, w] h = some (boatV t k w, h) := by
  have sp := hP.sp (s := s) (by omega)
  have w6 := hW.2.2.2.2.2.2.1
  have a10 := hS.2.2.2.2.2.2.2.2.2.2
  have a7 := hS.2.2.2.2.2.2.2.1
  rw [e_X11_boat, xg_pos (hP.p (by decide)), findSea_e hP hb, xb_some, if_pos (show 0 ≤ (s : Int) ∧ (s : Int) < h 6 0 by omega), if_neg (by omega), xg_pos (by omega), show 20 + 10 * (s : Int) = ((20 + 10 * s : Nat) : Int) by omega, hasBoat_e hS, xb_some]
  unfold boatV
  by_cases c1 : 0 ≤ k ∧ k < t 6
  · obtain ⟨q1, q2, q3⟩ := a10 k.toNat (by omega)
    have e2 : (((20 + 10 * s : Nat) : Int) + 5).toNat = 20 + 10 * s + 5 := by omega
    have e3 : (((20 + 10 * s : Nat) : Int) + 6).toNat = 20 + 10 * s + 6 := by omega
    have e4 : (((20 + 10 * s : Nat) : Int) + 7).toNat = 20 + 10 * s + 7 := by omega
    rw [if_pos c1, if_neg (by decide), Int.toNat_natCast, e2, e3, e4, a7]
    by_cases d0 : w = 0
    · rw [if_pos d0, xg_pos (by omega), xg_pos sp.2.2.2.2.1, xg_pos (by omega), q1, if_pos (by omega), if_neg (by omega), d0]; rfl
    rw [if_neg d0]
    by_cases d1 : w = 1
    · rw [if_pos d1, xg_pos (by omega), xg_pos sp.2.2.2.2.2.1, xg_pos (by omega), q2, if_pos (by omega), if_neg (by omega), d1, show 31 + 3 * k.toNat + (1 : Int).toNat = 32 + 3 * k.toNat by omega]
    rw [if_neg d1]
    by_cases d2 : w = 2
    · rw [if_pos d2, xg_pos (by omega), xg_pos sp.2.2.2.2.2.2, xg_pos (by omega), q3, if_pos (by omega), if_neg (by omega), d2, show 31 + 3 * k.toNat + (2 : Int).toNat = 33 + 3 * k.toNat by omega]
    rw [if_neg d2]
    by_cases d3 : w = 3
    · rw [if_pos d3, xg_pos (by omega), if_pos (by omega), if_pos d3]
    rw [if_neg d3, if_neg (by omega)]
  · rw [if_neg c1, if_pos rfl, if_neg (by omega)]
theorem boatR_e {m s : Nat} {k w : Int} {t : Nat → Int} {g : yH} (hn : 7 ≤ m) (hq : rQ g) (h4 : ∀ j, j < 12 → 0 ≤ g 4 j ∧ g 4 j ≤ 2) (hs : (s : Int) < g 4 0) (ht : ∀ j, j < 50 → g 5 (50 * s + j) = t j) (hW : tW0 t) : yR (f_X12_boat m [35, (s : Int), k, w] g) (fun v g2 => v = boatV t k w ∧ hdR s t (zup g 35 0 0) g2) := by
  have w6 := hW.2.2.2.2.2.2.1
  refine yR.e e_X12_boat ?_
  refine yR.b (hand_e hn (c0_q hq) (c0_4 h4) (by rw [zup_ne (by omega)]; exact hs) (fun j hj => by rw [zup_ne (by omega)]; exact ht j hj) hW) (fun v g2 ⟨rv, H⟩ => ?_)
  subst rv
  refine yR.f (by decide) ?_
  rw [e_X12_isBoat, H.2.1.2.2.2.2.2, xg_pos (by omega)]
  unfold boatV
  by_cases c1 : 0 ≤ k ∧ k ≤ t 6 - 1
  · rw [in_t c1, xb_some, xg_pos (by decide), xb_some, if_neg (by decide)]
    by_cases c2 : 0 ≤ w ∧ w ≤ 3
    · rw [in_t c2, xb_some, if_neg (by decide), if_pos (show 0 ≤ k ∧ k < t 6 ∧ 0 ≤ w ∧ w ≤ 3 by omega)]
      by_cases c3 : w < 3
      · rw [if_pos c3, xg_pos (by omega), xg_pos (by omega), xg_pos (by omega), of_e H.1 (k := 31 + 3 * k.toNat + w.toNat) (by omega) (by omega), xb_some, if_neg (by omega)]
        exact yR.s ⟨rfl, H⟩
      · rw [if_neg c3, of_e (x := 49) H.1 (k := 49) rfl (by omega), xb_some, e_X12_isIn, if_pos (show w = 3 by omega)]
        rcases bit_01 (yari 6 (t 49) k) with e | e
        · rw [e, if_neg (by decide), xb_some, if_pos rfl]
          exact yR.s ⟨rfl, H⟩
        · rw [e, if_pos rfl, xb_some, if_neg (by decide)]
          exact yR.s ⟨rfl, H⟩
    · rw [in_f c2, xb_some, if_pos rfl, if_neg (by omega)]
      exact yR.s ⟨rfl, H⟩
  · rw [in_f c1, xb_some, xg_pos (by decide), xb_some, if_pos rfl, if_neg (by omega)]
    exact yR.s ⟨rfl, H⟩
theorem RR_boat {m n : Nat} {x k w : Int} {h g : yH} (hn : 7 ≤ m) (R : RR True h g) (hL : lnI h) (hm : h 4 1 ≤ 600) (hq : rQ g) (h4 : ∀ j, j < 12 → 0 ≤ g 4 j ∧ g 4 j ≤ 2) : ∃ v h2 g2, f_X11_boat n [1, x, k, w] h = some (v, h2) ∧ f_X12_boat m [35, x, k, w] g = some (v, g2) ∧ RR True h2 g2 ∧ ∀ a j, h2 a j = h a j := by
  have hP := R.1
  have n0 := R.n6 (j := 0) (by decide)
  have b0 := h4 0 (by decide)
  refine RR_ask (k := 0) (none' := -1) R hL hm hq h4 (fun c => ?_) (fun c => ?_) (fun s t e hs h6 h4' hW hS hp ht => ?_)
  · rw [e_X11_boat, xg_pos (hP.p (by decide)), findSea_e hP (by omega), xb_some, if_neg c, if_pos (by decide)]
  · refine ⟨-1, zup g 35 0 0, ?_, rfl, R.c0 hL hm⟩
    rw [e_X12_boat, hand_n (c0_q hq) (c0_4 h4) (by rw [zup_ne (by omega)]; exact c), xb_some, if_pos rfl]
  · subst e
    obtain ⟨v, g2, e2, rv, H⟩ := boatR_e (m := m) (k := k) (w := w) hn hq h4 h4' ht hW
    subst rv
    exact ⟨_, h, g2, boatC_e hP (by omega) h6 hS hW, e2, (R.c0 hL hm).hd hL hm H, fun _ _ => rfl⟩
