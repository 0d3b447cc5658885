section
/-! sea and day as told, on both sides -/
theorem dayIn {h g : yH} {s dd : Nat} (R : RR True h g) (hW : WH g) (hp : cPr h) (hs : s < 2) (hsm : (s : Int) < g 4 0) (hd : dd < 2) (hdm : (dd : Int) < g 4 1) : ∃ t d : Nat → Int, dT t d ∧ bCc (20 + 10 * s) (40 + 10 * dd) t d h ∧ (∀ j, j < 50 → g 5 (50 * s + j) = t j) ∧ ∀ j, j < 121 → g 6 (121 * dd + j) = d j := by
  obtain ⟨t, a1, a2, a3, a4⟩ := R.sea hs hsm
  obtain ⟨d, b1, b2, b3⟩ := R.2.2.1.2.2.2.2.2.2.1 dd hd
  have hP := R.1
  have w0 := (hW 0 (by decide)).1 s hs hsm
  have w1 : wh0 t := w0.c (fun j hj => by
    show t j = g 5 (100 * 0 + 50 * s + j)
    rw [← a3 j hj, show 100 * 0 + 50 * s + j = 50 * s + j by omega])
  rw [show 0 + 40 + 10 * dd = 40 + 10 * dd by omega] at b1
  refine ⟨t, d, ⟨a4, w1, b3 hdm⟩, ⟨⟨by omega, by omega⟩, hp, a1, a2, b1, ?_, ?_⟩, a3, fun j hj => by rw [← b2 j hj, show 242 * 0 + 121 * dd + j = 121 * dd + j by omega]⟩
  · rcases (show dd = 0 ∨ dd = 1 by omega) with rfl | rfl
    · exact hP.p (a := 40) (j := 1) (v := 41) (by decide)
    · exact hP.p (a := 50) (j := 1) (v := 51) (by decide)
  · rcases (show dd = 0 ∨ dd = 1 by omega) with rfl | rfl
    · exact hP.p (a := 40) (j := 2) (v := 42) (by decide)
    · exact hP.p (a := 50) (j := 2) (v := 52) (by decide)
/-- the reference's cells that a day leaves as they are -/
def frZ (g g2 : yH) : Prop := ∀ a j, a ≤ 9 ∨ a = 12 ∨ (26 ≤ a ∧ a ≤ 34) → g2 a j = g a j
theorem frZ.t {g g1 g2 : yH} (a : frZ g g1) (b : frZ g1 g2) : frZ g g2 := fun i j w => (b i j w).trans (a i j w)
theorem frK.z {k : Nat} {g g2 : yH} (h : frK k g g2) : frZ g g2 := fun a j w => h.1 a j (by omega)
theorem frZ.k7 {g g2 : yH} (h : frZ g g2) : k7 g g2 := fun a j w1 w2 => h a j (by omega)
theorem RR.z {F : Prop} {h h2 g g2 : yH} (R : RR F h g) (hL : lnI h) (hm : h 4 1 ≤ 600) (f : frC h h2) (z : frZ g g2) (hq : rQ g2) : RR F h2 g2 := by
  have R1 := R.gf hL hm hq.P (fun a j w => z a j (by omega))
  exact R1.hf hL hm (fun a j w => f a j (by omega))
/-- a sea and a day in the reference's hand -/
theorem lay2 {m s dd : Nat} {t d : Nat → Int} {g : yH} (hm : 7 ≤ m) (hq : rQ g) (h4 : ∀ j, j < 12 → 0 ≤ g 4 j ∧ g 4 j ≤ 2) (hs : (s : Int) < g 4 0) (hd : dd < 2) (hdm : (dd : Int) < g 4 1) (ht : ∀ j, j < 50 → g 5 (50 * s + j) = t j) (hD : ∀ j, j < 121 → g 6 (121 * dd + j) = d j) (hT : dT t d) :
    ∃ gB, bCr s dd t d 0 0 gB ∧ frZ g gB ∧ ∀ r : yO, xb (f_X12_play m [35, d 0] gB) (fun _ h4 => some (1, h4)) = r → f_X12_layDay m [35, (s : Int), (dd : Int)] g = r := by
  have q1 : rQ (zup g 35 33 (dd : Int)) := hq.up (Or.inr (by decide))
  have n4 : ∀ j, (zup g 35 33 (dd : Int)) 4 j = g 4 j := fun j => zup_ne (by omega)
  obtain ⟨v, g2, e1, rv, H⟩ := hand_e (n := m) (s := s) (t := t) hm q1 (fun j hj => by rw [n4]; exact h4 j hj) (by rw [n4]; exact hs) (fun j hj => by rw [zup_ne (by omega)]; exact ht j hj) hT.1
  obtain ⟨H1, ⟨H2, H3, H4, H5, H6, H7⟩, H8, H9⟩ := H
  have fr : ∀ a j, ¬ (a = 35 ∧ (j = 33 ∨ (23 ≤ j ∧ j ≤ 29) ∨ j = 50)) → a ≠ 10 → a ≠ 11 → (zup g2 35 50 (-1)) a j = g a j := fun a j w1 w2 w3 => by
    rw [zup_ne (by omega), H9 a j (by omega) w2 w3, zup_ne (by omega)]
  have k35 : ∀ j, j ≠ 50 → (zup g2 35 50 (-1)) 35 j = g2 35 j := fun j w => zup_ne (by omega)
  have k33 : (zup g2 35 50 (-1)) 35 33 = (dd : Int) := by
    rw [k35 _ (by omega), H9 _ _ (by omega) (by omega) (by omega), zup_at]
  have k6 : ∀ j, j < 121 → (zup g2 35 50 (-1)) 6 (121 * dd + j) = d j := fun j hj => by
    rw [fr _ _ (by omega) (by omega) (by omega)]
    exact hD j hj
  have sH1 : sH s t (zup g2 35 50 (-1)) := H1.nf (fun a j w => zup_ne (by unfold nqj at w; omega))
  refine ⟨zup g2 35 50 (-1), ⟨⟨sH1, by rw [k35 _ (by omega)]; exact H2, by rw [k35 _ (by omega)]; exact H3, by rw [k35 _ (by omega)]; exact H4, by rw [k35 _ (by omega)]; exact H5, by rw [k35 _ (by omega)]; exact H7, fun i hi => by rw [zup_ne (by omega)]; exact (H8 i hi).2⟩, by rw [k35 _ (by omega)]; exact H6, ⟨hd, k33⟩, k6, ⟨by decide, by decide⟩, Or.inr ⟨zup_at _ _ _ _, rfl⟩, fun w => by omega⟩, fun a j w => fr a j (by omega) (by omega) (by omega), fun r er => ?_⟩
  rw [e_X12_layDay, hasDay_e hq.P h4, xb_some, if_pos (show 0 ≤ (dd : Int) ∧ (dd : Int) < g 4 1 by omega), if_neg (by decide), e1, xb_some, rv, if_neg (by decide), e_X12_deeds, xg_pos (sH1.2.2.2.p (j := 7) (k := 6) (by decide)), k33, xg_pos (by omega), xg_pos (by omega), show (121 * (dd : Int)).toNat = 121 * dd + 0 by omega, k6 0 (by decide), xb_some]
  exact er
/-- no such sea, or no such day -/
theorem layN {m : Nat} {x y : Int} {g : yH} (hq : rQ g) (h4 : ∀ j, j < 12 → 0 ≤ g 4 j ∧ g 4 j ≤ 2) (hn : ¬ ((0 ≤ x ∧ x < g 4 0) ∧ 0 ≤ y ∧ y < g 4 1)) : f_X12_layDay m [35, x, y] g = some (0, zup g 35 33 y) := by
  rw [e_X12_layDay, hasDay_e hq.P h4, xb_some]
  by_cases c : 0 ≤ y ∧ y < g 4 1
  · have n4 : ∀ j, (zup g 35 33 y) 4 j = g 4 j := fun j => zup_ne (by omega)
    rw [if_pos c, if_neg (by decide), hand_n (hq.up (Or.inr (by decide))) (fun j hj => by rw [n4]; exact h4 j hj) (by rw [n4]; exact fun w => hn ⟨w, c⟩), xb_some, if_pos rfl]
  · rw [if_neg c, if_pos rfl]
/-- what the class asks first -/
theorem findBoth {n : Nat} {x y : Int} {h : yH} (hP : cP h) (h0 : h 6 0 ≤ 2) (h1 : h 6 1 ≤ 2) : f_X9_findSea n [3, x] h = some (if 0 ≤ x ∧ x < h 6 0 then 20 + 10 * x else -1, h) ∧ f_X9_findDay n [3, y] h = some (if 0 ≤ y ∧ y < h 6 1 then 40 + 10 * y else -1, h) := ⟨findSea_e hP h0, findDay_e hP h1⟩
/-- at the end of a day: what both hold -/
def stE (h g h2 g2 : yH) : Prop := ∃ (b e s dd : Nat) (t d : Nat → Int) (S q c k2 : Nat) (p : Nat → Int), dT t d ∧ dR b e s dd t d 0 S q c p h2 g2 ∧ q ≤ 180 ∧ c ≤ 121770 ∧ g2 35 34 = (k2 : Int) ∧ frC h h2 ∧ frZ g g2
theorem toStop2 {m n : Nat} {x y : Int} {h g : yH} (hn : 300 ≤ n) (hm : 300 ≤ m) (R : RR True h g) (hW : WH g) (hp : cPr h) (h13 : h 1 3 = 130) (hq : rQ g) (h4 : ∀ j, j < 12 → 0 ≤ g 4 j ∧ g 4 j ≤ 2) :
    ∃ v h2 g2, f_X11_runToStop n [1, x, y] h = some (v, h2) ∧ f_X12_layDay m [35, x, y] g = some (v, g2) ∧ ((v = 0 ∧ h2 = h ∧ g2 = zup g 35 33 y) ∨ (v = 1 ∧ stE h g h2 g2)) := by
  have hP := R.1
  have n0 := R.n6 (j := 0) (by decide)
  have n1 := R.n6 (j := 1) (by decide)
  have b0 := h4 0 (by decide)
  have b1 := h4 1 (by decide)
  have p3 : h 1 0 = 3 := hP.p (by decide)
  obtain ⟨F1, F2⟩ := findBoth (n := n) (x := x) (y := y) hP (by omega) (by omega)
  by_cases c : (0 ≤ x ∧ x < g 4 0) ∧ 0 ≤ y ∧ y < g 4 1
  · obtain ⟨s, rfl⟩ : ∃ s : Nat, x = (s : Int) := ⟨x.toNat, by omega⟩
    obtain ⟨dd, rfl⟩ : ∃ dd : Nat, y = (dd : Int) := ⟨y.toNat, by omega⟩
    obtain ⟨t, d, hT, C, ht, hD⟩ := dayIn (s := s) (dd := dd) R hW hp (by omega) c.1.2 (by omega) c.2.2
    obtain ⟨gB, B1, B2, B3⟩ := lay2 (m := m) (s := s) (dd := dd) (t := t) (d := d) (by omega) hq h4 c.1.2 (by omega) c.2.2 ht hD hT
    obtain ⟨h0, g0, f1, f2, D0, z34, z50, fc, fk⟩ := begin2 (n := n) (m := m) (by omega) (by omega) hT C B1
    have d30 := hT.2.2.1
    obtain ⟨k2, hE, gE, sm⟩ := sim2 (x1 := 30) hT (d 0).toNat 0 (d 0).toNat n m _ 0 0 _ h0 g0 (by omega) (by omega) (by omega) (by omega) (by omega) (by omega) D0 z34
    have go := sm.go (by omega) (by omega)
    rw [show (((d 0).toNat : Nat) : Int) = d 0 by omega] at go
    obtain ⟨⟨y1, y2⟩, ⟨S2, p2, y3⟩, ⟨y4, y5⟩, y6, y7, -⟩ := sm
    have k0 : h0 130 1 = ((40 + 10 * dd : Nat) : Int) := D0.1.2.2.2.1
    have kd : h0 (40 + 10 * dd) 0 = d 0 := D0.1.2.2.2.2.2.2.1.1
    refine ⟨1, hE, gE, ?_, B3 _ ?_, Or.inr ⟨rfl, 20 + 10 * s, 40 + 10 * dd, s, dd, t, d, S2, _, _, k2, p2, hT, y3, by omega, by omega, y4, fc.t y6, B2.t (fk.z.t y7.z)⟩⟩
    · rw [e_X11_runToStop, xg_pos p3, F1, xb_some, xg_pos p3, F2, xb_some, if_pos (show 0 ≤ (s : Int) ∧ (s : Int) < h 6 0 by omega), if_pos (show 0 ≤ (dd : Int) ∧ (dd : Int) < h 6 1 by omega), if_neg (by omega), if_neg (by omega), xg_pos h13, xg_pos (by omega), xg_pos (by omega), show 20 + 10 * (s : Int) = ((20 + 10 * s : Nat) : Int) by omega, show 40 + 10 * (dd : Int) = ((40 + 10 * dd : Nat) : Int) by omega, f1, xb_some, xg_pos (by rw [fc _ _ (by omega)]; exact h13), e_X5_go, k0, xg_pos (by omega), Int.toNat_natCast, kd, show min 30 (d 0) = d 0 by omega, go.1, xb_some]
    · rw [e_X12_play, f2, xb_some, go.2, xb_some]
  · refine ⟨0, h, zup g 35 33 y, ?_, layN hq h4 c, Or.inl ⟨rfl, rfl, rfl⟩⟩
    rw [e_X11_runToStop, xg_pos p3, F1, xb_some, xg_pos p3, F2, xb_some]
    by_cases c1 : 0 ≤ x ∧ x < h 6 0
    · rw [if_pos c1, if_neg (by omega), if_neg (show ¬ (0 ≤ y ∧ y < h 6 1) by omega), if_pos (by decide)]
    · rw [if_neg c1, if_pos (by decide)]
/-- what is kept of the class behind a day -/
theorem stE.keep {h g h2 g2 : yH} (E : stE h g h2 g2) (R : RR True h g) (hL : lnI h) (hm : h 4 1 ≤ 600) : RR True h2 g2 ∧ cPr h2 ∧ frC h h2 ∧ k7 g g2 := by
  obtain ⟨b, e, s, dd, t, d, S, q, c, k2, p, hT, D, -, -, -, fc, fz⟩ := E
  exact ⟨R.z hL hm fc fz D.2.1.1.1.2.2.2, D.1.2.1, fc, fz.k7⟩
/-- what every question of a day leaves -/
def dyK (h g h2 g2 : yH) : Prop := RR True h2 g2 ∧ cPr h2 ∧ frC h h2 ∧ k7 g g2
theorem dyK.c0 {h g : yH} (R : RR True h g) (hL : lnI h) (hm : h 4 1 ≤ 600) (hp : cPr h) : dyK h g h (zup g 35 0 0) := ⟨R.c0 hL hm, hp, frC.r, k7.c0⟩
theorem dyK.n {h g : yH} {y : Int} (R : RR True h g) (hL : lnI h) (hm : h 4 1 ≤ 600) (hq : rQ g) (hp : cPr h) : dyK h g h (zup (zup g 35 0 0) 35 33 y) := ⟨R.gf hL hm ((hq.up (Or.inr (by decide))).up (Or.inr (by decide)) : rQ (zup (zup g 35 0 0) 35 33 y)).P (fun a j w => by rw [zup_ne (by omega), zup_ne (by omega)]), hp, frC.r, fun a j w1 w2 => by rw [zup_ne (by omega), zup_ne (by omega)]⟩
theorem stE.k {h g h2 g2 : yH} (E : stE h (zup g 35 0 0) h2 g2) (R : RR True h g) (hL : lnI h) (hm : h 4 1 ≤ 600) : dyK h g h2 g2 := by
  obtain ⟨a1, a2, a3, a4⟩ := E.keep (R.c0 hL hm) hL hm
  exact ⟨a1, a2, a3, fun a j w1 w2 => (a4 a j w1 w2).trans (zup_ne (by omega))⟩
theorem WH.c0 {g : yH} (h : WH g) : WH (zup g 35 0 0) := h.fr (fun a j w => zup_ne (by omega))
theorem stopD {m n : Nat} {x y : Int} {h g : yH} (hn : 300 ≤ n) (hm : 300 ≤ m) (R : RR True h g) (hW : WH g) (hp : cPr h) (h13 : h 1 3 = 130) (hL : lnI h) (hl : h 4 1 ≤ 600) (hq : rQ g) (h4 : ∀ j, j < 12 → 0 ≤ g 4 j ∧ g 4 j ≤ 2) :
    ∃ v h2 g2, f_X11_runToStop n [1, x, y] h = some (v, h2) ∧ f_X12_layDay m [35, x, y] (zup g 35 0 0) = some (v, g2) ∧ h2 1 3 = 130 ∧ dyK h g h2 g2 ∧ (v = 0 ∨ (v = 1 ∧ stE h (zup g 35 0 0) h2 g2)) := by
  obtain ⟨v, h2, g2, e1, e2, e3⟩ := toStop2 (x := x) (y := y) hn hm (R.c0 hL hl) hW.c0 hp h13 (c0_q hq) (c0_4 h4)
  rcases e3 with ⟨rfl, rfl, rfl⟩ | ⟨rfl, e3⟩
  · exact ⟨0, _, _, e1, e2, h13, dyK.n R hL hl hq hp, Or.inl rfl⟩
  · have k := e3.k R hL hl
    exact ⟨1, _, _, e1, e2, by rw [k.2.2.1 _ _ (by omega)]; exact h13, k, Or.inr ⟨rfl, e3⟩⟩
/-! stop, twice -/
theorem RR_stop {m n : Nat} {x y : Int} {h g : yH} (hn : 300 ≤ n) (hm : 300 ≤ m) (R : RR True h g) (hW : WH g) (hp : cPr h) (h13 : h 1 3 = 130) (hL : lnI h) (hl : h 4 1 ≤ 600) (hq : rQ g) (h4 : ∀ j, j < 12 → 0 ≤ g 4 j ∧ g 4 j ≤ 2) : ∃ v h2 g2, f_X11_stop n [1, x, y] h = some (v, h2) ∧ f_X12_stop m [35, x, y] g = some (v, g2) ∧ dyK h g h2 g2 := by
  obtain ⟨v, h2, g2, e1, e2, e13, k, e3⟩ := stopD (x := x) (y := y) hn hm R hW hp h13 hL hl hq h4
  rcases e3 with rfl | ⟨rfl, e3⟩
  · refine ⟨-1, h2, g2, ?_, ?_, k⟩
    · rw [e_X11_stop, e1, xb_some, if_pos rfl]
    · rw [e_X12_stop, e2, xb_some, if_pos rfl]
  · obtain ⟨b, e, s, dd, t, d, S, q, c, k2, p, hT, D, -, -, z, -, -⟩ := e3
    refine ⟨g2 35 34, h2, g2, ?_, ?_, k⟩
    · rw [e_X11_stop, e1, xb_some, if_neg (by decide), xg_pos e13, D.2.2.1.1]
    · rw [e_X12_stop, e2, xb_some, if_neg (by decide)]
theorem RR_twice {m n : Nat} {x y : Int} {h g : yH} (hn : 300 ≤ n) (hm : 300 ≤ m) (R : RR True h g) (hW : WH g) (hp : cPr h) (h13 : h 1 3 = 130) (hL : lnI h) (hl : h 4 1 ≤ 600) (hq : rQ g) (h4 : ∀ j, j < 12 → 0 ≤ g 4 j ∧ g 4 j ≤ 2) : ∃ v h2 g2, f_X11_twice n [1, x, y] h = some (v, h2) ∧ f_X12_twice m [35, x, y] g = some (v, g2) ∧ dyK h g h2 g2 := by
  obtain ⟨v, h2, g2, e1, e2, e13, k, e3⟩ := stopD (x := x) (y := y) hn hm R hW hp h13 hL hl hq h4
  rcases e3 with rfl | ⟨rfl, e3⟩
  · refine ⟨-1, h2, g2, ?_, ?_, k⟩
    · rw [e_X11_twice, e1, xb_some, if_pos rfl]
    · rw [e_X12_twice, e2, xb_some, if_pos rfl]
  · obtain ⟨b, e, s, dd, t, d, S, q, c, k2, p, hT, D, -, -, z, -, -⟩ := e3
    refine ⟨g2 35 49, h2, g2, ?_, ?_, k⟩
    · rw [e_X11_twice, e1, xb_some, if_neg (by decide), xg_pos e13, D.2.2.1.2.2.1]
    · rw [e_X12_twice, e2, xb_some, if_neg (by decide)]
end
section
/-! a state of a day; a deed of a day -/
def stS (z : Int) (h g h2 g2 : yH) : Prop := ∃ (b e s dd : Nat) (t d : Nat → Int) (S q c : Nat) (p : Nat → Int), dT t d ∧ dR b e s dd t d 0 S q c p h2 g2 ∧ g2 35 34 = z ∧ frC h h2 ∧ frZ g g2
def st0 (h g h2 g2 : yH) : Prop := cPr h2 ∧ frC h h2 ∧ frZ g g2 ∧ rQ g2
theorem dR.bcr {b e s dd : Nat} {t d : Nat → Int} {S q c : Nat} {p : Nat → Int} {h g : yH} (H : dR b e s dd t d 0 S q c p h g) (hT : dT t d) : bCr s dd t d 0 0 g := ⟨H.2.1.1.z hT.1.wd.2.2.2.2.2, H.2.1.2.2.1, H.2.1.2.1, H.2.1.2.2.2, ⟨by decide, by decide⟩, H.2.2.1.2.2.2.2.2.2.1, fun w => by omega⟩
theorem toState2 {m n : Nat} {x y z : Int} {h g : yH} (hn : 300 ≤ n) (hm : 300 ≤ m) (R : RR True h g) (hW : WH g) (hp : cPr h) (h13 : h 1 3 = 130) (hq : rQ g) (h4 : ∀ j, j < 12 → 0 ≤ g 4 j ∧ g 4 j ≤ 2) :
    ∃ v h2 g2, f_X11_runToState n [1, x, y, z] h = some (v, h2) ∧ f_X12_layState m [35, x, y, z] g = some (v, g2) ∧ ((v = 0 ∧ st0 h g h2 g2) ∨ (v = 1 ∧ stS z h g h2 g2)) := by
  have hP := R.1
  have n0 := R.n6 (j := 0) (by decide)
  have n1 := R.n6 (j := 1) (by decide)
  have b0 := h4 0 (by decide)
  have b1 := h4 1 (by decide)
  have p3 : h 1 0 = 3 := hP.p (by decide)
  obtain ⟨F1, F2⟩ := findBoth (n := n) (x := x) (y := y) hP (by omega) (by omega)
  have C0 : ∀ r : yO, (if (if 0 ≤ x ∧ x < h 6 0 then 20 + 10 * x else -1) < 0 then (some (0, h)) else (if (if 0 ≤ y ∧ y < h 6 1 then 40 + 10 * y else -1) < 0 then (some (0, h)) else (if z < 0 then (some (0, h)) else (xg (0 ≤ (if 0 ≤ y ∧ y < h 6 1 then 40 + 10 * y else -1)) (if (h (if 0 ≤ y ∧ y < h 6 1 then 40 + 10 * y else -1).toNat 0) < z then (some (0, h)) else (xg (h 1 3 = 130) (xg (0 ≤ (if 0 ≤ x ∧ x < h 6 0 then 20 + 10 * x else -1)) (xg (0 ≤ (if 0 ≤ y ∧ y < h 6 1 then 40 + 10 * y else -1)) (xb (f_X5_begin n [130, (if 0 ≤ x ∧ x < h 6 0 then 20 + 10 * x else -1), (if 0 ≤ y ∧ y < h 6 1 then 40 + 10 * y else -1), 0, 0] h) (fun _ h3 => xg (h3 1 3 = 130) (xb (f_X5_go n [130, z] h3) (fun _ h4 => xg (h4 1 3 = 130) (if (h4 130 6) = z then (some (1, h4)) else (some (0, h4)))))))))))))) : yO) = r → f_X11_runToState n [1, x, y, z] h = r := by
    intro r er
    rw [e_X11_runToState, xg_pos p3, F1, xb_some, xg_pos p3, F2, xb_some]
    exact er
  have s0 : st0 h g h g := ⟨hp, frC.r, fun _ _ _ => rfl, hq⟩
  by_cases cz : z < 0
  · refine ⟨0, h, g, C0 _ ?_, ?_, Or.inl ⟨rfl, s0⟩⟩
    · by_cases c1 : (if 0 ≤ x ∧ x < h 6 0 then 20 + 10 * x else -1) < 0
      · rw [if_pos c1]
      · rw [if_neg c1]
        by_cases c2 : (if 0 ≤ y ∧ y < h 6 1 then 40 + 10 * y else -1) < 0
        · rw [if_pos c2]
        · rw [if_neg c2, if_pos cz]
    · rw [e_X12_layState, if_pos cz]
  by_cases c : (0 ≤ x ∧ x < g 4 0) ∧ 0 ≤ y ∧ y < g 4 1
  rotate_left
  · refine ⟨0, h, zup g 35 33 y, C0 _ ?_, ?_, Or.inl ⟨rfl, hp, frC.r, fun a j w => zup_ne (by omega), hq.up (Or.inr (by decide))⟩⟩
    · by_cases c1 : 0 ≤ x ∧ x < h 6 0
      · rw [if_pos c1, if_neg (show ¬ (20 + 10 * x < 0) by omega), if_neg (show ¬ (0 ≤ y ∧ y < h 6 1) by omega), if_pos (by decide)]
      · rw [if_neg c1, if_pos (by decide)]
    · rw [e_X12_layState, if_neg cz, layN hq h4 c, xb_some, if_pos rfl]
  obtain ⟨s, rfl⟩ : ∃ s : Nat, x = (s : Int) := ⟨x.toNat, by omega⟩
  obtain ⟨dd, rfl⟩ : ∃ dd : Nat, y = (dd : Int) := ⟨y.toNat, by omega⟩
  rw [if_pos (show 0 ≤ (s : Int) ∧ (s : Int) < h 6 0 by omega), if_pos (show 0 ≤ (dd : Int) ∧ (dd : Int) < h 6 1 by omega), if_neg (show ¬ (20 + 10 * (s : Int) < 0) by omega), if_neg (show ¬ (40 + 10 * (dd : Int) < 0) by omega), if_neg cz] at C0
  obtain ⟨t, d, hT, C, ht, hD⟩ := dayIn (s := s) (dd := dd) R hW hp (by omega) c.1.2 (by omega) c.2.2
  obtain ⟨gB, B1, B2, B3⟩ := lay2 (m := m) (s := s) (dd := dd) (t := t) (d := d) (by omega) hq h4 c.1.2 (by omega) c.2.2 ht hD hT
  obtain ⟨h0, g0, f1, f2, D0, z34, z50, fc, fk⟩ := begin2 (n := n) (m := m) (by omega) (by omega) hT C B1
  have d30 := hT.2.2.1
  have hd0 : h (40 + 10 * (dd : Int)).toNat 0 = d 0 := by
    rw [show (40 + 10 * (dd : Int)).toNat = 40 + 10 * dd by omega]
    exact C.2.2.2.2.1.1
  rw [xg_pos (show 0 ≤ 40 + 10 * (dd : Int) by omega), hd0, xg_pos h13, xg_pos (show 0 ≤ 20 + 10 * (s : Int) by omega), show 20 + 10 * (s : Int) = ((20 + 10 * s : Nat) : Int) by omega, show 40 + 10 * (dd : Int) = ((40 + 10 * dd : Nat) : Int) by omega, xg_pos (show 0 ≤ ((40 + 10 * dd : Nat) : Int) by omega), f1, xb_some] at C0
  have k0 : h0 130 1 = ((40 + 10 * dd : Nat) : Int) := D0.1.2.2.2.1
  have kd : h0 (40 + 10 * dd) 0 = d 0 := D0.1.2.2.2.2.2.2.1.1
  have h013 : h0 1 3 = 130 := by rw [fc _ _ (by omega)]; exact h13
  by_cases cd : d 0 < z
  · obtain ⟨k2, hE, gE, sm⟩ := sim2 (x1 := 30) hT (d 0).toNat 0 (d 0).toNat n m _ 0 0 _ h0 g0 (by omega) (by omega) (by omega) (by omega) (by omega) (by omega) D0 z34
    have go := sm.go (by omega) (by omega)
    rw [show (((d 0).toNat : Nat) : Int) = d 0 by omega] at go
    obtain ⟨⟨y1, y2⟩, ⟨S2, p2, y3⟩, ⟨y4, y5⟩, y6, y7, -⟩ := sm
    refine ⟨0, h, gE, C0 _ ?_, ?_, Or.inl ⟨rfl, hp, frC.r, B2.t (fk.z.t y7.z), y3.2.1.1.1.2.2.2⟩⟩
    · rw [if_pos cd]
    · rw [e_X12_layState, if_neg cz, B3 (some (1, gE)) (by rw [e_X12_play, f2, xb_some, go.2, xb_some]), xb_some, if_neg (by decide), y4, if_pos (by omega)]
  · obtain ⟨k2, hE, gE, kZ, hZ, gZ, sm, sz, i1, -⟩ := core2 (n := n) (m := m) (D := (d 0).toNat) (Z := z.toNat) (x1 := z) hT (by omega) (by omega) D0 z34 (by omega) (by omega)
    have go := sm.go (by omega) (by omega)
    have gz := sz.go (by omega) (by omega)
    rw [show (((d 0).toNat : Nat) : Int) = d 0 by omega] at go
    rw [show ((z.toNat : Nat) : Int) = z by omega] at gz
    obtain ⟨⟨y1, y2⟩, ⟨S2, p2, y3⟩, ⟨y4, y5⟩, y6, y7, -⟩ := sm
    obtain ⟨⟨u1, u2⟩, ⟨S3, p3', u3⟩, ⟨u4, u5⟩, u6, u7, -⟩ := sz
    have hz6 : hZ 130 6 = (kZ : Int) := u3.2.2.1.1.trans u4
    have eL : f_X12_layDay m [35, (s : Int), (dd : Int)] g = some (1, gE) := B3 _ (by rw [e_X12_play, f2, xb_some, go.2, xb_some])
    have eG : f_X5_go n [130, z] h0 = some (0, hZ) := by
      rw [e_X5_go, k0, xg_pos (by omega), Int.toNat_natCast, kd, show min z (d 0) = z by omega]
      exact gz.1
    have hZ13 : hZ 1 3 = 130 := by rw [u6 _ _ (by omega)]; exact h013
    rw [if_neg cd, xg_pos h013, eG, xb_some, xg_pos hZ13, hz6] at C0
    by_cases ck : kZ = z.toNat
    · obtain ⟨h0', g0', v1, v2, D1, v34, v50, vc, vk⟩ := begin2 (n := n) (m := m) (by omega) (by omega) hT C (y3.bcr hT)
      have eh : h0 = h0' := congrArg Prod.snd (Option.some.inj (f1.symm.trans v1))
      subst eh
      obtain ⟨kY, hY, gY, sy⟩ := sim2 (x1 := z) hT z.toNat 0 z.toNat n m _ 0 0 _ h0 g0' (by omega) (by omega) (by omega) (by omega) (by omega) (by omega) D1 v34
      have gy := sy.go (by omega) (by omega)
      rw [show ((z.toNat : Nat) : Int) = z by omega] at gy
      obtain ⟨⟨t1, t2⟩, ⟨S4, p4, t3⟩, ⟨t4, t5⟩, t6, t7, -⟩ := sy
      have eh : hZ = hY := congrArg Prod.snd (Option.some.inj (gz.1.symm.trans gy.1))
      subst eh
      have ky : (kY : Int) = (kZ : Int) := by rw [← t4, ← t3.2.2.1.1, hz6]
      refine ⟨1, hZ, gY, C0 _ ?_, ?_, Or.inr ⟨rfl, _, _, _, _, t, d, S4, _, _, p4, hT, t3, by rw [t4]; omega, fc.t u6, B2.t (fk.z.t (y7.z.t (vk.z.t t7.z)))⟩⟩
      · rw [if_pos (by omega)]
      · rw [e_X12_layState, if_neg cz, eL, xb_some, if_neg (by decide), y4, if_neg (by have := i1.mp ck; omega), e_X12_play, v2, xb_some, gy.2, xb_some, if_pos (by omega)]
    · refine ⟨0, hZ, gE, C0 _ ?_, ?_, Or.inl ⟨rfl, u3.1.2.1, fc.t u6, B2.t (fk.z.t y7.z), y3.2.1.1.1.2.2.2⟩⟩
      · rw [if_neg (by omega)]
      · have i2 : ¬ z.toNat ≤ k2 := fun w => ck (i1.mpr w)
        rw [e_X12_layState, if_neg cz, eL, xb_some, if_neg (by decide), y4, if_pos (by omega)]
theorem stS.k {z : Int} {h g h2 g2 : yH} (E : stS z h (zup g 35 0 0) h2 g2) (R : RR True h g) (hL : lnI h) (hm : h 4 1 ≤ 600) : dyK h g h2 g2 := by
  obtain ⟨b, e, s, dd, t, d, S, q, c, p, hT, D, -, fc, fz⟩ := E
  exact ⟨(R.c0 hL hm).z hL hm fc fz D.2.1.1.1.2.2.2, D.1.2.1, fc, fun a j w1 w2 => (fz a j (by omega)).trans (zup_ne (by omega))⟩
theorem st0.k {h g h2 g2 : yH} (E : st0 h (zup g 35 0 0) h2 g2) (R : RR True h g) (hL : lnI h) (hm : h 4 1 ≤ 600) : dyK h g h2 g2 := by
  obtain ⟨hp, fc, fz, hq⟩ := E
  exact ⟨(R.c0 hL hm).z hL hm fc fz hq, hp, fc, fun a j w1 w2 => (fz a j (by omega)).trans (zup_ne (by omega))⟩
theorem stateD {m n : Nat} {x y z : Int} {h g : yH} (hn : 300 ≤ n) (hm : 300 ≤ m) (R : RR True h g) (hW : WH g) (hp : cPr h) (h13 : h 1 3 = 130) (hL : lnI h) (hl : h 4 1 ≤ 600) (hq : rQ g) (h4 : ∀ j, j < 12 → 0 ≤ g 4 j ∧ g 4 j ≤ 2) :
    ∃ v h2 g2, f_X11_runToState n [1, x, y, z] h = some (v, h2) ∧ f_X12_layState m [35, x, y, z] (zup g 35 0 0) = some (v, g2) ∧ h2 1 3 = 130 ∧ dyK h g h2 g2 ∧ (v = 0 ∨ (v = 1 ∧ stS z h (zup g 35 0 0) h2 g2)) := by
  obtain ⟨v, h2, g2, e1, e2, e3⟩ := toState2 (x := x) (y := y) (z := z) hn hm (R.c0 hL hl) hW.c0 hp h13 (c0_q hq) (c0_4 h4)
  rcases e3 with ⟨ev, e3⟩ | ⟨ev, e3⟩
  · have k := e3.k R hL hl
    exact ⟨v, h2, g2, e1, e2, by rw [k.2.2.1 _ _ (by omega)]; exact h13, k, Or.inl ev⟩
  · have k := e3.k R hL hl
    exact ⟨v, h2, g2, e1, e2, by rw [k.2.2.1 _ _ (by omega)]; exact h13, k, Or.inr ⟨ev, e3⟩⟩
/-! there, for any number; the boats -/
theorem thereX {b e s dd : Nat} {t d : Nat → Int} {K : Int} {S q c : Nat} {p : Nat → Int} {h g : yH} {n m : Nat} {x : Int} (H : dR b e s dd t d K S q c p h g) :
    (¬ (0 ≤ x ∧ x < 6) ∧ f_X7_isThere n [131, x] h = some (0, h) ∧ f_X12_isThere m [35, x] g = some (0, g)) ∨ ∃ i : Nat, x = (i : Int) ∧ i < 6 ∧ f_X7_isThere n [131, x] h = some (if i < S ∧ 0 < g 14 i then 1 else 0, h) ∧ f_X12_isThere m [35, x] g = some (if i < S ∧ 0 < g 14 i then 1 else 0, g) := by
  obtain ⟨S6, k2, k3, k4, k5⟩ := id H.2.2.2.1
  by_cases w : 0 ≤ x ∧ x < 6
  · obtain ⟨i, rfl⟩ : ∃ i : Nat, x = (i : Int) := ⟨x.toNat, by omega⟩
    obtain ⟨t1, t2⟩ := there2 (n := n) (m := m) H (show i < 6 by omega)
    exact Or.inr ⟨i, rfl, by omega, t1, t2⟩
  · refine Or.inl ⟨w, ?_, ?_⟩
    · rw [e_X7_isThere]
      by_cases w2 : x < 0
      · rw [if_pos w2]
      · rw [if_neg w2, if_neg (by omega)]
    · rw [e_X12_isThere, k3, xg_pos (by omega), in_f (by omega), xb_some, if_pos rfl]
end
section
/-! state -/
theorem RR_state {m n : Nat} {x y z k w : Int} {h g : yH} (hn : 300 ≤ n) (hm : 300 ≤ m) (R : RR True h g) (hW : WH g) (hp : cPr h) (h13 : h 1 3 = 130) (hL : lnI h) (hl : h 4 1 ≤ 600) (hq : rQ g) (h4 : ∀ j, j < 12 → 0 ≤ g 4 j ∧ g 4 j ≤ 2) : ∃ v h2 g2, f_X11_state n [1, x, y, z, k, w] h = some (v, h2) ∧ f_X12_state m [35, x, y, z, k, w] g = some (v, g2) ∧ dyK h g h2 g2 := by
  obtain ⟨v, h2, g2, e1, e2, e13, kk, e3⟩ := stateD (x := x) (y := y) (z := z) hn hm R hW hp h13 hL hl hq h4
  rcases e3 with ev | ⟨ev, e3⟩
  · refine ⟨-2, h2, g2, ?_, ?_, kk⟩
    · rw [e_X11_state, e1, xb_some, if_pos ev]
    · rw [e_X12_state, e2, xb_some, if_pos ev]
  obtain ⟨b, e, s, dd, t, d, S, q, c, p, hT, D, hz, -, -⟩ := e3
  obtain ⟨p1, p2, p3, p4, p5, p6, p7, p8, p9, p10, p11⟩ := id D.1.2.1
  have Q : ∀ {j : Nat} {k : Int}, (j, k) ∈ rQL → g2 35 j = k := fun hm => D.Q hm
  obtain ⟨nn1, nn2, -⟩ := id D.2.2.1
  have C0 : ∀ r : yO, (xb (f_X7_isThere n [131, k] h2) (fun v3 h3 => if v3 = 0 then (some ((-2), h3)) else (xg (h3 1 3 = 130) (xg (h3 130 2 = 131) (xb (f_X7_holderAt n [131, k, z] h3) (fun v4 h4 => if v4 = (-1) then (xq_X11_state_54 n [1, x, y, z, k, w, 131, 0] h4) else (xq_X11_state_54 n [1, x, y, z, k, w, 131, 1] h4))))))) = r → f_X11_state n [1, x, y, z, k, w] h = r := fun r er => by
    rw [e_X11_state, e1, xb_some, if_neg (by omega), xg_pos e13, xg_pos p1]
    exact er
  have R0 : ∀ r : yO, (xb (f_X12_isThere m [35, k] g2) (fun v3 h3 => if v3 = 0 then (some ((-2), h3)) else (xb (f_X12_holderNow m [35, k] h3) (fun v4 h4 => if v4 = (-1) then (xq_X12_state_42 m [35, x, y, z, k, w, 0] h4) else (xq_X12_state_42 m [35, x, y, z, k, w, 1] h4))))) = r → f_X12_state m [35, x, y, z, k, w] g = r := fun r er => by
    rw [e_X12_state, e2, xb_some, if_neg (by omega)]
    exact er
  rcases thereX (n := n) (m := m) (x := k) D with ⟨-, t1, t2⟩ | ⟨i, rfl, i6, t1, t2⟩
  · refine ⟨-2, h2, g2, C0 _ ?_, R0 _ ?_, kk⟩
    · rw [t1, xb_some, if_pos rfl]
    · rw [t2, xb_some, if_pos rfl]
  by_cases cT : i < S ∧ 0 < g2 14 i
  rotate_left
  · rw [if_neg cT] at t1 t2
    refine ⟨-2, h2, g2, C0 _ ?_, R0 _ ?_, kk⟩
    · rw [t1, xb_some, if_pos rfl]
    · rw [t2, xb_some, if_pos rfl]
  rw [if_pos cT] at t1 t2
  obtain ⟨⟨d1, d2, d3, d4, d5, d6⟩, d7⟩ := (D.2.2.2.1.2.2.2.2 i i6).2.1 cT.1
  obtain ⟨f1, f2, f3, f4, f5, f6⟩ := d7 cT.2
  have hA := holderAt_e (n := n) (hr := z) D.1.2.1 i6
  have hN := holderNow_e (n := m) D.2.1.1.1.2.2.2 i6
  rw [f5, f6] at hA
  rw [hz] at hN
  have key : ∀ y0 : Int, ∃ v, xq_X11_state_54 n [1, x, y, z, (i : Int), w, 131, y0] h2 = some (v, h2) ∧ xq_X12_state_42 m [35, x, y, z, (i : Int), w, y0] g2 = some (v, g2) := by
    intro y0
    by_cases c0 : w = 0
    · refine ⟨g2 13 i, ?_, ?_⟩
      · rw [e_X11_state_54, if_pos c0, show (131 : Int).toNat = 131 from rfl, xg_pos p6, xg_pos (by omega), Int.toNat_natCast, f1]
      · rw [e_X12_state_42, if_pos c0, xg_pos (Q (j := 36) (k := 13) (by decide)), xg_pos (by omega), Int.toNat_natCast]
    by_cases c1 : w = 1
    · refine ⟨g2 14 i, ?_, ?_⟩
      · rw [e_X11_state_54, if_neg c0, if_pos c1, show (131 : Int).toNat = 131 from rfl, xg_pos p7, xg_pos (by omega), Int.toNat_natCast, f2]
      · rw [e_X12_state_42, if_neg c0, if_pos c1, xg_pos (Q (j := 37) (k := 14) (by decide)), xg_pos (by omega), Int.toNat_natCast]
    by_cases c2 : w = 2
    · refine ⟨hdN (g2 16 i) (g2 20 i) z, ?_, ?_⟩
      · rw [e_X11_state_54, if_neg c0, if_neg c1, if_pos c2, hA, xb_some]
      · rw [e_X12_state_42, if_neg c0, if_neg c1, if_pos c2, hN, xb_some]
    by_cases c3 : w = 3
    · by_cases cy : y0 = 0
      · refine ⟨0, ?_, ?_⟩
        · rw [e_X11_state_54, if_neg c0, if_neg c1, if_neg c2, if_pos c3, if_pos cy]
        · rw [e_X12_state_42, if_neg c0, if_neg c1, if_neg c2, if_pos c3, if_pos cy]
      · refine ⟨g2 19 i, ?_, ?_⟩
        · rw [e_X11_state_54, if_neg c0, if_neg c1, if_neg c2, if_pos c3, if_neg cy, show (131 : Int).toNat = 131 from rfl, xg_pos p9, xg_pos (by omega), Int.toNat_natCast, f4]
        · rw [e_X12_state_42, if_neg c0, if_neg c1, if_neg c2, if_pos c3, if_neg cy, xg_pos (Q (j := 40) (k := 19) (by decide)), xg_pos (by omega), Int.toNat_natCast]
    by_cases c4 : w = 4
    · by_cases cy : y0 = 0
      · refine ⟨0, ?_, ?_⟩
        · rw [e_X11_state_54, if_neg c0, if_neg c1, if_neg c2, if_neg c3, if_pos c4, if_pos cy]
        · rw [e_X12_state_42, if_neg c0, if_neg c1, if_neg c2, if_neg c3, if_pos c4, if_pos cy]
      · refine ⟨g2 16 i - z + 1, ?_, ?_⟩
        · rw [e_X11_state_54, if_neg c0, if_neg c1, if_neg c2, if_neg c3, if_pos c4, if_neg cy, show (131 : Int).toNat = 131 from rfl, xg_pos p10, xg_pos (by omega), Int.toNat_natCast, f5, xg_pos (by omega), xg_pos (by omega)]
        · rw [e_X12_state_42, if_neg c0, if_neg c1, if_neg c2, if_neg c3, if_pos c4, if_neg cy, xg_pos (Q (j := 41) (k := 16) (by decide)), xg_pos (by omega), Int.toNat_natCast, hz, xg_pos (by omega), xg_pos (by omega)]
    by_cases c5 : w = 5
    · refine ⟨g2 15 i, ?_, ?_⟩
      · rw [e_X11_state_54, if_neg c0, if_neg c1, if_neg c2, if_neg c3, if_neg c4, if_pos c5, show (131 : Int).toNat = 131 from rfl, xg_pos p8, xg_pos (by omega), Int.toNat_natCast, f3]
      · rw [e_X12_state_42, if_neg c0, if_neg c1, if_neg c2, if_neg c3, if_neg c4, if_pos c5, xg_pos (Q (j := 38) (k := 15) (by decide)), xg_pos (by omega), Int.toNat_natCast]
    · refine ⟨-2, ?_, ?_⟩
      · rw [e_X11_state_54, if_neg c0, if_neg c1, if_neg c2, if_neg c3, if_neg c4, if_neg c5]
      · rw [e_X12_state_42, if_neg c0, if_neg c1, if_neg c2, if_neg c3, if_neg c4, if_neg c5]
  by_cases ch : hdN (g2 16 i) (g2 20 i) z = -1
  · obtain ⟨v, a1, a2⟩ := key 0
    refine ⟨v, h2, g2, C0 _ ?_, R0 _ ?_, kk⟩
    · rw [t1, xb_some, if_neg (by decide), xg_pos e13, xg_pos p1, hA, xb_some, if_pos ch]
      exact a1
    · rw [t2, xb_some, if_neg (by decide), hN, xb_some, if_pos ch]
      exact a2
  · obtain ⟨v, a1, a2⟩ := key 1
    refine ⟨v, h2, g2, C0 _ ?_, R0 _ ?_, kk⟩
    · rw [t1, xb_some, if_neg (by decide), xg_pos e13, xg_pos p1, hA, xb_some, if_neg ch]
      exact a1
    · rw [t2, xb_some, if_neg (by decide), hN, xb_some, if_neg ch]
      exact a2
/-! lack -/
theorem RR_lack {m n : Nat} {x y z k w : Int} {h g : yH} (hn : 300 ≤ n) (hm : 300 ≤ m) (R : RR True h g) (hW : WH g) (hp : cPr h) (h13 : h 1 3 = 130) (hL : lnI h) (hl : h 4 1 ≤ 600) (hq : rQ g) (h4 : ∀ j, j < 12 → 0 ≤ g 4 j ∧ g 4 j ≤ 2) : ∃ v h2 g2, f_X11_lack n [1, x, y, z, k, w] h = some (v, h2) ∧ f_X12_lack m [35, x, y, z, k, w] g = some (v, g2) ∧ dyK h g h2 g2 := by
  obtain ⟨v, h2, g2, e1, e2, e13, kk, e3⟩ := stateD (x := x) (y := y) (z := z) hn hm R hW hp h13 hL hl hq h4
  rcases e3 with ev | ⟨ev, e3⟩
  · refine ⟨-1, h2, g2, ?_, ?_, kk⟩
    · rw [e_X11_lack, e1, xb_some, if_pos ev]
    · rw [e_X12_lack, e2, xb_some, if_pos ev]
  obtain ⟨b, e, s, dd, t, d, S, q, c, p, hT, D, hz, -, -⟩ := e3
  obtain ⟨-, p0, p1, p2, p3, -⟩ := id D.1
  have C0 : ∀ r : yO, (xb (f_X6_hasBoat n [(b : Int), k] h2) (fun v2 h2 => if v2 = 0 then (some ((-1), h2)) else (xg (h2 1 3 = 130) (xg (h2 130 2 = 131) (xb (f_X7_isThere n [131, w] h2) (fun v3 h3 => if v3 = 0 then (some ((-1), h3)) else (xg (h3 1 3 = 130) (xg (h3 1 3 = 130) (xb (f_X5_hearersNow n [130, k] h3) (fun v4 h4 => xb (f_X5_lacking n [130, k, w, v4] h4) (fun v5 h5 => some (v5, h5)))))))))))) = r → f_X11_lack n [1, x, y, z, k, w] h = r := fun r er => by
    rw [e_X11_lack, e1, xb_some, if_neg (by omega), xg_pos e13, p1, xg_pos (by omega)]
    exact er
  have R0 : ∀ r : yO, (xb (f_X12_isBoat m [35, k] g2) (fun v2 h2 => if v2 = 0 then (some ((-1), h2)) else (xb (f_X12_isThere m [35, w] h2) (fun v3 h3 => if v3 = 0 then (some ((-1), h3)) else (xb (f_X12_lawOf m [35, k, 0] h3) (fun v4 h4 => xb (f_X12_hearersOf m [35, k] h4) (fun v5 h5 => xb (f_X12_lackOf m [35, k, w, v4, v5] h5) (fun v6 h6 => some (v6, h6))))))))) = r → f_X12_lack m [35, x, y, z, k, w] g = r := fun r er => by
    rw [e_X12_lack, e2, xb_some, if_neg (by omega)]
    exact er
  by_cases ck : 0 ≤ k ∧ k < t 6
  rotate_left
  · refine ⟨-1, h2, g2, C0 _ ?_, R0 _ ?_, kk⟩
    · rw [hasBoat_e p3, xb_some, if_neg ck, if_pos rfl]
    · rw [isBoatR_e D hT, xb_some, if_neg ck, if_pos rfl]
  obtain ⟨a, rfl⟩ : ∃ a : Nat, k = (a : Int) := ⟨k.toNat, by omega⟩
  have hb := hrs_b (a := a) (D.W hT)
  rcases thereX (n := n) (m := m) (x := w) D with ⟨-, t1, t2⟩ | ⟨i, rfl, i6, t1, t2⟩
  · refine ⟨-1, h2, g2, C0 _ ?_, R0 _ ?_, kk⟩
    · rw [hasBoat_e p3, xb_some, if_pos ck, if_neg (by decide), xg_pos e13, xg_pos p0.1, t1, xb_some, if_pos rfl]
    · rw [isBoatR_e D hT, xb_some, if_pos ck, if_neg (by decide), t2, xb_some, if_pos rfl]
  by_cases cT : i < S ∧ 0 < g2 14 i
  rotate_left
  · rw [if_neg cT] at t1 t2
    refine ⟨-1, h2, g2, C0 _ ?_, R0 _ ?_, kk⟩
    · rw [hasBoat_e p3, xb_some, if_pos ck, if_neg (by decide), xg_pos e13, xg_pos p0.1, t1, xb_some, if_pos rfl]
    · rw [isBoatR_e D hT, xb_some, if_pos ck, if_neg (by decide), t2, xb_some, if_pos rfl]
  rw [if_pos cT] at t1 t2
  obtain ⟨L1, L2⟩ := lack2 (n := n) (m := m) (w := hrs (bU t p) a) (said := lawV t a 0) D hT (by omega) ck.2 cT.1 cT.2 hb
  have l0 := lawOf_e (n := m) (w := 0) D.2.1.1.1 hT.1 (D.bp hT ck.2).2.2.1 (by decide)
  rw [show ((0 : Nat) : Int) = 0 from rfl] at l0
  rw [if_neg (Int.lt_irrefl _), Int.add_zero] at L2
  refine ⟨lkC t a (hdN (g2 16 i) (g2 20 i) (g2 35 34)) (hrs (bU t p) a) (p a) (g2 13 i), h2, g2, C0 _ ?_, R0 _ ?_, kk⟩
  · rw [hasBoat_e p3, xb_some, if_pos ck, if_neg (by decide), xg_pos e13, xg_pos p0.1, t1, xb_some, if_neg (by decide), xg_pos e13, xg_pos e13, hearC_e D hT (by omega) ck.2, xb_some, L1, xb_some]
  · rw [isBoatR_e D hT, xb_some, if_pos ck, if_neg (by decide), t2, xb_some, if_neg (by decide), l0, xb_some, hearR_e D hT (by omega) ck.2, xb_some, L2, xb_some]
end
section
/-! has: what is claimable, what is held -/
def acB (f : Nat → Bool) : Nat → Int
  | 0 => 0
  | k + 1 => if f k = true then yari 8 (acB f k) (yari 5 1 (k : Int)) else acB f k
theorem acB_b {f : Nat → Bool} : ∀ k, k ≤ 6 → 0 ≤ acB f k ∧ acB f k ≤ 63 := by
  intro k
  induction k with
  | zero => intro _; exact ⟨Int.le_refl _, (by decide : (0 : Int) ≤ 63)⟩
  | succ k ih =>
    intro hk
    have := ih (by omega)
    show 0 ≤ (if f k = true then yari 8 (acB f k) (yari 5 1 (k : Int)) else acB f k) ∧ (if f k = true then yari 8 (acB f k) (yari 5 1 (k : Int)) else acB f k) ≤ 63
    by_cases c : f k = true
    · rw [if_pos c]; exact or6 this (by omega)
    · rw [if_neg c]; exact this
theorem acB_z {f : Nat → Bool} {S : Nat} (hf : ∀ i, S ≤ i → f i = false) : ∀ m, acB f (S + m) = acB f S := by
  intro m
  induction m with
  | zero => rfl
  | succ m ih =>
    show (if f (S + m) = true then yari 8 (acB f (S + m)) (yari 5 1 ((S + m : Nat) : Int)) else acB f (S + m)) = acB f S
    rw [hf _ (by omega), if_neg (by decide), ih]
theorem acB_6 {f : Nat → Bool} {S : Nat} (hf : ∀ i, S ≤ i → f i = false) (hS : S ≤ 6) : acB f 6 = acB f S := by
  have := acB_z hf (6 - S)
  rw [show S + (6 - S) = 6 by omega] at this
  exact this
/-- claimable by a boat -/
def clF (t : Nat → Int) (p : Nat → Int) (a S : Nat) (g : yH) (i : Nat) : Bool := decide (i < S) && (decide (0 < g 14 i) && decide (lkC t a (hdN (g 16 i) (g 20 i) (g 35 34)) (hrs (bU t p) a) (p a) (g 13 i) = 0))
theorem clF_t {t p : Nat → Int} {a S : Nat} {g : yH} {i : Nat} : clF t p a S g i = true ↔ (i < S ∧ 0 < g 14 i) ∧ lkC t a (hdN (g 16 i) (g 20 i) (g 35 34)) (hrs (bU t p) a) (p a) (g 13 i) = 0 := by
  unfold clF
  simp only [Bool.and_eq_true, decide_eq_true_eq]
  exact ⟨fun w => ⟨⟨w.1, w.2.1⟩, w.2.2⟩, fun w => ⟨w.1.1, w.1.2, w.2⟩⟩
theorem clmC_l {b e s dd : Nat} {t d : Nat → Int} {K : Int} {S q c : Nat} {p : Nat → Int} {h g : yH} {a : Nat} (H : dR b e s dd t d K S q c p h g) (hT : dT t d) (ha : (a : Int) < t 6) : ∀ (mm k n : Nat), mm + k = 6 → mm < n → xl_X5_claimable n 11 [130, (a : Int), hrs (bU t p) a, acB (clF t p a S g) k, (k : Int)] h = some (acB (clF t p a S g) 6, h) := by
  intro mm
  induction mm with
  | zero =>
    intro k n e1 e2
    obtain ⟨n, rfl⟩ : ∃ n', n = n' + 1 := ⟨n - 1, by omega⟩
    rw [e_X5_claimable_11, if_neg (by omega), show k = 6 by omega]
  | succ mm ih =>
    intro k n e1 e2
    obtain ⟨n, rfl⟩ : ∃ n', n = n' + 1 := ⟨n - 1, by omega⟩
    have nx := ih (k + 1) n (by omega) (by omega)
    obtain ⟨t1, -⟩ := there2 (n := n) (m := 0) H (show k < 6 by omega)
    have st : acB (clF t p a S g) (k + 1) = if clF t p a S g k = true then yari 8 (acB (clF t p a S g) k) (yari 5 1 (k : Int)) else acB (clF t p a S g) k := rfl
    rw [st] at nx
    rw [e_X5_claimable_11, if_pos (by omega), xg_pos H.1.2.1.1, t1, xb_some]
    by_cases cT : k < S ∧ 0 < g 14 k
    · obtain ⟨L1, -⟩ := lack2 (n := n) (m := 17) (w := hrs (bU t p) a) (said := 0) H hT (by omega) ha cT.1 cT.2 (hrs_b (H.W hT))
      rw [if_pos cT, if_neg (by decide), L1, xb_some]
      by_cases c0 : lkC t a (hdN (g 16 k) (g 20 k) (g 35 34)) (hrs (bU t p) a) (p a) (g 13 k) = 0
      · rw [if_pos c0, xg_pos (by omega), show (k : Int) + 1 = ((k + 1 : Nat) : Int) by omega]
        rw [if_pos (clF_t.mpr ⟨cT, c0⟩)] at nx
        exact nx
      · rw [if_neg c0, xg_pos (by omega), show (k : Int) + 1 = ((k + 1 : Nat) : Int) by omega]
        rw [if_neg (fun w => c0 (clF_t.mp w).2)] at nx
        exact nx
    · rw [if_neg cT, if_pos rfl, xg_pos (by omega), show (k : Int) + 1 = ((k + 1 : Nat) : Int) by omega]
      rw [if_neg (fun w => cT (clF_t.mp w).1)] at nx
      exact nx
theorem aloR_l {b e s dd : Nat} {t d : Nat → Int} {K : Int} {S q c : Nat} {p : Nat → Int} {h g : yH} {a : Nat} (H : dR b e s dd t d K S q c p h g) (hT : dT t d) (ha : (a : Int) < t 6) : ∀ (mm k m : Nat), mm + k = S → mm + 18 ≤ m → xl_X12_aloneOf m 4 [35, (a : Int), acB (clF t p a S g) k, (k : Int)] g = some (acB (clF t p a S g) S, g) := by
  have S6 : S ≤ 6 := H.2.2.2.1.1
  have k3 := H.2.2.2.1.2.2.1
  have l0 := fun m => lawOf_e (n := m) (w := 0) H.2.1.1.1 hT.1 (H.bp hT ha).2.2.1 (by decide)
  rw [show ((0 : Nat) : Int) = 0 from rfl] at l0
  intro mm
  induction mm with
  | zero =>
    intro k m e1 e2
    obtain ⟨m, rfl⟩ : ∃ m', m = m' + 1 := ⟨m - 1, by omega⟩
    rw [e_X12_aloneOf_4, k3, if_neg (by omega), show k = S by omega]
  | succ mm ih =>
    intro k m e1 e2
    obtain ⟨m, rfl⟩ : ∃ m', m = m' + 1 := ⟨m - 1, by omega⟩
    have nx := ih (k + 1) m (by omega) (by omega)
    have bb := acB_b (f := clF t p a S g) k (by omega)
    have st : acB (clF t p a S g) (k + 1) = if clF t p a S g k = true then yari 8 (acB (clF t p a S g) k) (yari 5 1 (k : Int)) else acB (clF t p a S g) k := rfl
    rw [st] at nx
    rw [e_X12_aloneOf_4, k3, if_pos (by omega), xg_pos (H.Q (j := 37) (k := 14) (by decide)), xg_pos (by omega), Int.toNat_natCast k]
    by_cases cT : 0 < g 14 k
    · obtain ⟨-, L2⟩ := lack2 (n := 0) (m := m) (w := hrs (bU t p) a) (said := lawV t a 0) H hT (by omega) ha (show k < S by omega) cT (hrs_b (H.W hT))
      rw [if_neg (Int.lt_irrefl _), Int.add_zero] at L2
      rw [if_pos cT, l0, xb_some, hearR_e H hT (by omega) ha, xb_some, L2, xb_some]
      by_cases c0 : lkC t a (hdN (g 16 k) (g 20 k) (g 35 34)) (hrs (bU t p) a) (p a) (g 13 k) = 0
      · rw [if_pos c0, xg_pos (by omega), show (k : Int) + 1 = ((k + 1 : Nat) : Int) by omega]
        rw [if_pos (clF_t.mpr ⟨⟨by omega, cT⟩, c0⟩)] at nx
        exact nx
      · rw [if_neg c0, xg_pos (by omega), or0 bb, show (k : Int) + 1 = ((k + 1 : Nat) : Int) by omega]
        rw [if_neg (fun w => c0 (clF_t.mp w).2)] at nx
        exact nx
    · rw [if_neg cT, xg_pos (by omega), or0 bb, show (k : Int) + 1 = ((k + 1 : Nat) : Int) by omega]
      rw [if_neg (fun w => cT (clF_t.mp w).1.2)] at nx
      exact nx
/-- held by a boat -/
def hlF (a S : Nat) (g : yH) (i : Nat) : Bool := decide (i < S) && (decide (0 < g 14 i) && decide (hdN (g 16 i) (g 20 i) (g 35 34) = (a : Int)))
theorem hlF_t {a S : Nat} {g : yH} {i : Nat} : hlF a S g i = true ↔ (i < S ∧ 0 < g 14 i) ∧ hdN (g 16 i) (g 20 i) (g 35 34) = (a : Int) := by
  unfold hlF
  simp only [Bool.and_eq_true, decide_eq_true_eq]
  exact ⟨fun w => ⟨⟨w.1, w.2.1⟩, w.2.2⟩, fun w => ⟨w.1.1, w.1.2, w.2⟩⟩
theorem hldC_l {b e s dd : Nat} {t d : Nat → Int} {K : Int} {S q c : Nat} {p : Nat → Int} {h g : yH} {a : Nat} (H : dR b e s dd t d K S q c p h g) : ∀ (mm k n : Nat), mm + k = 6 → mm < n → xl_X7_heldBy n 5 [131, (a : Int), g 35 34, acB (hlF a S g) k, (k : Int)] h = some (acB (hlF a S g) 6, h) := by
  intro mm
  induction mm with
  | zero =>
    intro k n e1 e2
    obtain ⟨n, rfl⟩ : ∃ n', n = n' + 1 := ⟨n - 1, by omega⟩
    rw [e_X7_heldBy_5, if_neg (by omega), show k = 6 by omega]
  | succ mm ih =>
    intro k n e1 e2
    obtain ⟨n, rfl⟩ : ∃ n', n = n' + 1 := ⟨n - 1, by omega⟩
    have nx := ih (k + 1) n (by omega) (by omega)
    obtain ⟨t1, -⟩ := there2 (n := n) (m := 0) H (show k < 6 by omega)
    have st : acB (hlF a S g) (k + 1) = if hlF a S g k = true then yari 8 (acB (hlF a S g) k) (yari 5 1 (k : Int)) else acB (hlF a S g) k := rfl
    rw [st] at nx
    rw [e_X7_heldBy_5, if_pos (by omega), t1, xb_some]
    by_cases cT : k < S ∧ 0 < g 14 k
    · obtain ⟨f1, f2, f3, f4, f5, f6⟩ := ((H.2.2.2.1.2.2.2.2 k (by omega)).2.1 cT.1).2 cT.2
      rw [if_pos cT, if_neg (by decide), holderAt_e H.1.2.1 (by omega), xb_some, f5, f6]
      by_cases c0 : hdN (g 16 k) (g 20 k) (g 35 34) = (a : Int)
      · rw [if_pos c0, xg_pos (by omega), show (k : Int) + 1 = ((k + 1 : Nat) : Int) by omega]
        rw [if_pos (hlF_t.mpr ⟨cT, c0⟩)] at nx
        exact nx
      · rw [if_neg c0, xg_pos (by omega), show (k : Int) + 1 = ((k + 1 : Nat) : Int) by omega]
        rw [if_neg (fun w => c0 (hlF_t.mp w).2)] at nx
        exact nx
    · rw [if_neg cT, if_pos rfl, xg_pos (by omega), show (k : Int) + 1 = ((k + 1 : Nat) : Int) by omega]
      rw [if_neg (fun w => cT (hlF_t.mp w).1)] at nx
      exact nx
theorem hldR_l {b e s dd : Nat} {t d : Nat → Int} {K : Int} {S q c : Nat} {p : Nat → Int} {h g : yH} {a : Nat} (H : dR b e s dd t d K S q c p h g) : ∀ (mm k m : Nat), mm + k = S → mm < m → xl_X12_holdsOf m 4 [35, (a : Int), acB (hlF a S g) k, (k : Int)] g = some (acB (hlF a S g) S, g) := by
  have S6 : S ≤ 6 := H.2.2.2.1.1
  have k3 := H.2.2.2.1.2.2.1
  intro mm
  induction mm with
  | zero =>
    intro k m e1 e2
    obtain ⟨m, rfl⟩ : ∃ m', m = m' + 1 := ⟨m - 1, by omega⟩
    rw [e_X12_holdsOf_4, k3, if_neg (by omega), show k = S by omega]
  | succ mm ih =>
    intro k m e1 e2
    obtain ⟨m, rfl⟩ : ∃ m', m = m' + 1 := ⟨m - 1, by omega⟩
    have nx := ih (k + 1) m (by omega) (by omega)
    have bb := acB_b (f := hlF a S g) k (by omega)
    have st : acB (hlF a S g) (k + 1) = if hlF a S g k = true then yari 8 (acB (hlF a S g) k) (yari 5 1 (k : Int)) else acB (hlF a S g) k := rfl
    rw [st] at nx
    rw [e_X12_holdsOf_4, k3, if_pos (by omega), xg_pos (H.Q (j := 37) (k := 14) (by decide)), xg_pos (by omega), Int.toNat_natCast k]
    by_cases cT : 0 < g 14 k
    · rw [if_pos cT, holderNow_e H.2.1.1.1.2.2.2 (by omega), xb_some]
      by_cases c0 : hdN (g 16 k) (g 20 k) (g 35 34) = (a : Int)
      · rw [if_pos c0, xg_pos (by omega), show (k : Int) + 1 = ((k + 1 : Nat) : Int) by omega]
        rw [if_pos (hlF_t.mpr ⟨⟨by omega, cT⟩, c0⟩)] at nx
        exact nx
      · rw [if_neg c0, xg_pos (by omega), or0 bb, show (k : Int) + 1 = ((k + 1 : Nat) : Int) by omega]
        rw [if_neg (fun w => c0 (hlF_t.mp w).2)] at nx
        exact nx
    · rw [if_neg cT, xg_pos (by omega), or0 bb, show (k : Int) + 1 = ((k + 1 : Nat) : Int) by omega]
      rw [if_neg (fun w => cT (hlF_t.mp w).1.2)] at nx
      exact nx
theorem RR_has {m n : Nat} {x y z k w : Int} {h g : yH} (hn : 300 ≤ n) (hm : 300 ≤ m) (R : RR True h g) (hW : WH g) (hp : cPr h) (h13 : h 1 3 = 130) (hL : lnI h) (hl : h 4 1 ≤ 600) (hq : rQ g) (h4 : ∀ j, j < 12 → 0 ≤ g 4 j ∧ g 4 j ≤ 2) : ∃ v h2 g2, f_X11_has n [1, x, y, z, k, w] h = some (v, h2) ∧ f_X12_has m [35, x, y, z, k, w] g = some (v, g2) ∧ dyK h g h2 g2 := by
  obtain ⟨v, h2, g2, e1, e2, e13, kk, e3⟩ := stateD (x := x) (y := y) (z := z) hn hm R hW hp h13 hL hl hq h4
  rcases e3 with ev | ⟨ev, e3⟩
  · refine ⟨-2, h2, g2, ?_, ?_, kk⟩
    · rw [e_X11_has, e1, xb_some, if_pos ev]
    · rw [e_X12_has, e2, xb_some, if_pos ev]
  obtain ⟨b, e, s, dd, t, d, S, q, c, p, hT, D, hz, -, -⟩ := e3
  obtain ⟨-, p0, p1, p2, p3, -⟩ := id D.1
  have S6 : S ≤ 6 := D.2.2.2.1.1
  have Q : ∀ {j : Nat} {k : Int}, (j, k) ∈ rQL → g2 35 j = k := fun hm => D.Q hm
  have C0 : ∀ r : yO, (xb (f_X6_hasBoat n [(b : Int), k] h2) (fun v2 h2 => if v2 = 0 then (some ((-2), h2)) else (if w = 0 then (xg (h2 1 3 = 130) (xg (h2 130 3 = 138) (xg (0 ≤ k ∧ k < 6) (some ((h2 138 k.toNat), h2))))) else (if w = 1 then (xg (h2 1 3 = 130) (xg (h2 130 4 = 139) (xg (0 ≤ k ∧ k < 6) (some ((h2 139 k.toNat), h2))))) else (if w = 2 then (xg (h2 1 3 = 130) (xb (f_X5_claimable n [130, k] h2) (fun v4 h4 => some (v4, h4)))) else (if w = 3 then (xg (h2 1 3 = 130) (xg (h2 130 2 = 131) (xb (f_X7_heldBy n [131, k, z] h2) (fun v3 h3 => some (v3, h3))))) else (if w = 4 then (xg (h2 1 3 = 130) (xg (h2 130 5 = 140) (xg (0 ≤ k ∧ k < 6) (some ((h2 140 k.toNat), h2))))) else (some ((-2), h2))))))))) = r → f_X11_has n [1, x, y, z, k, w] h = r := fun r er => by
    rw [e_X11_has, e1, xb_some, if_neg (by omega), xg_pos e13, p1, xg_pos (by omega)]
    exact er
  have R0 : ∀ r : yO, (xb (f_X12_isBoat m [35, k] g2) (fun v2 h2 => if v2 = 0 then (some ((-2), h2)) else (if w = 0 then (xg (h2 35 30 = 10) (xg (0 ≤ k ∧ k < 6) (some ((h2 10 k.toNat), h2)))) else (if w = 1 then (xg (h2 35 42 = 17) (xg (0 ≤ k ∧ k < 6) (some ((h2 17 k.toNat), h2)))) else (if w = 2 then (xb (f_X12_aloneOf m [35, k] h2) (fun v4 h4 => some (v4, h4))) else (if w = 3 then (xb (f_X12_holdsOf m [35, k] h2) (fun v3 h3 => some (v3, h3))) else (if w = 4 then (xg (h2 35 43 = 18) (xg (0 ≤ k ∧ k < 6) (some ((h2 18 k.toNat), h2)))) else (some ((-2), h2))))))))) = r → f_X12_has m [35, x, y, z, k, w] g = r := fun r er => by
    rw [e_X12_has, e2, xb_some, if_neg (by omega)]
    exact er
  by_cases ck : 0 ≤ k ∧ k < t 6
  rotate_left
  · refine ⟨-2, h2, g2, C0 _ ?_, R0 _ ?_, kk⟩
    · rw [hasBoat_e p3, xb_some, if_neg ck, if_pos rfl]
    · rw [isBoatR_e D hT, xb_some, if_neg ck, if_pos rfl]
  obtain ⟨a, rfl⟩ : ∃ a : Nat, k = (a : Int) := ⟨k.toNat, by omega⟩
  obtain ⟨w1, w2, w3, w4, w5⟩ := D.bp hT ck.2
  obtain ⟨⟨q1, -⟩, ⟨q3, -⟩, q5, -⟩ := D.2.2.2.2.2 a ck.2
  have hb := hasBoat_e (n := n) (k := (a : Int)) p3
  rw [if_pos ck] at hb
  have ib := isBoatR_e (m := m) (x := (a : Int)) D hT
  rw [if_pos ck] at ib
  rw [hb, xb_some, if_neg (by decide)] at C0
  rw [ib, xb_some, if_neg (by decide)] at R0
  by_cases c0 : w = 0
  · refine ⟨p a, h2, g2, C0 _ ?_, R0 _ ?_, kk⟩
    · rw [if_pos c0, xg_pos e13, xg_pos p0.2.1, xg_pos (by omega), Int.toNat_natCast, q1]
    · rw [if_pos c0, xg_pos (Q (j := 30) (k := 10) (by decide)), xg_pos (by omega), Int.toNat_natCast, w1]
  by_cases c1 : w = 1
  · refine ⟨g2 17 a, h2, g2, C0 _ ?_, R0 _ ?_, kk⟩
    · rw [if_neg c0, if_pos c1, xg_pos e13, xg_pos p0.2.2.1, xg_pos (by omega), Int.toNat_natCast, q3]
    · rw [if_neg c0, if_pos c1, xg_pos (Q (j := 42) (k := 17) (by decide)), xg_pos (by omega), Int.toNat_natCast]
  by_cases c2 : w = 2
  · have cl := clmC_l D hT ck.2 6 0 n rfl (by omega)
    have al := aloR_l D hT ck.2 S 0 m (by omega) (by omega)
    rw [show ((0 : Nat) : Int) = 0 from rfl, show acB (clF t p a S g2) 0 = 0 from rfl] at cl al
    refine ⟨acB (clF t p a S g2) S, h2, g2, C0 _ ?_, R0 _ ?_, kk⟩
    · rw [if_neg c0, if_neg c1, if_pos c2, xg_pos e13, e_X5_claimable, hearC_e D hT (by omega) ck.2, xb_some, cl, xb_some, acB_6 (fun i hi => by
        cases q : clF t p a S g2 i with
        | false => rfl
        | true => exact absurd (clF_t.mp q).1.1 (by omega)) S6]
    · rw [if_neg c0, if_neg c1, if_pos c2, e_X12_aloneOf, al, xb_some]
  by_cases c3 : w = 3
  · have cl := hldC_l (a := a) D 6 0 n rfl (by omega)
    have al := hldR_l (a := a) D S 0 m (by omega) (by omega)
    rw [show ((0 : Nat) : Int) = 0 from rfl, show acB (hlF a S g2) 0 = 0 from rfl] at cl al
    rw [hz] at cl
    refine ⟨acB (hlF a S g2) S, h2, g2, C0 _ ?_, R0 _ ?_, kk⟩
    · rw [if_neg c0, if_neg c1, if_neg c2, if_pos c3, xg_pos e13, xg_pos p0.1, e_X7_heldBy, cl, xb_some, acB_6 (fun i hi => by
        cases q : hlF a S g2 i with
        | false => rfl
        | true => exact absurd (hlF_t.mp q).1.1 (by omega)) S6]
    · rw [if_neg c0, if_neg c1, if_neg c2, if_pos c3, e_X12_holdsOf, al, xb_some]
  by_cases c4 : w = 4
  · refine ⟨g2 18 a, h2, g2, C0 _ ?_, R0 _ ?_, kk⟩
    · rw [if_neg c0, if_neg c1, if_neg c2, if_neg c3, if_pos c4, xg_pos e13, xg_pos p0.2.2.2.1, xg_pos (by omega), Int.toNat_natCast, q5]
    · rw [if_neg c0, if_neg c1, if_neg c2, if_neg c3, if_pos c4, xg_pos (Q (j := 43) (k := 18) (by decide)), xg_pos (by omega), Int.toNat_natCast]
  · refine ⟨-2, h2, g2, C0 _ ?_, R0 _ ?_, kk⟩
    · rw [if_neg c0, if_neg c1, if_neg c2, if_neg c3, if_neg c4]
    · rw [if_neg c0, if_neg c1, if_neg c2, if_neg c3, if_neg c4]
/-! claimed, shares -/
/-- the end of a day, and the class behind its deed k -/
def deR (k : Nat) (h g h2 g2 : yH) : Prop := ∃ (e s dd : Nat) (t d : Nat → Int) (u : Nat → Int), dG s dd t d u g2 ∧ (k : Int) < d 0 ∧ k < 30 ∧ (h2 130 1 = (e : Int) ∧ h2 e 1 = (e : Int) + 1 ∧ h2 (e + 1) k = d (1 + 4 * k)) ∧ rcR 0 d k h2 g2
theorem deedD {m n : Nat} {x y k : Int} {h g : yH} (hn : 300 ≤ n) (hm : 300 ≤ m) (R : RR True h g) (hW : WH g) (hp : cPr h) (h13 : h 1 3 = 130) (hL : lnI h) (hl : h 4 1 ≤ 600) (hq : rQ g) (h4 : ∀ j, j < 12 → 0 ≤ g 4 j ∧ g 4 j ≤ 2) (hk : 0 ≤ k) :
    ∃ v w h2 g2, f_X11_runToState n [1, x, y, k + 1] h = some (v, h2) ∧ f_X12_layDay m [35, x, y] (zup g 35 0 0) = some (w, g2) ∧ h2 1 3 = 130 ∧ dyK h g h2 g2 ∧ (0 ≤ g2 35 34 ∧ g2 35 34 ≤ 30 ∨ w = 0) ∧ ((w = 0 ∧ v = 0) ∨ (w = 1 ∧ v = 0 ∧ g2 35 34 ≤ k) ∨ (w = 1 ∧ v = 1 ∧ k < g2 35 34 ∧ deR k.toNat h g h2 g2)) := by
  have R1 := R.c0 hL hl
  have hq1 := c0_q hq
  have h41 := c0_4 h4
  have hW1 := hW.c0
  have hP := R.1
  have n0 := R1.n6 (j := 0) (by decide)
  have n1 := R1.n6 (j := 1) (by decide)
  have b0 := h41 0 (by decide)
  have b1 := h41 1 (by decide)
  have p3 : h 1 0 = 3 := hP.p (by decide)
  obtain ⟨F1, F2⟩ := findBoth (n := n) (x := x) (y := y) hP (by omega) (by omega)
  by_cases c : (0 ≤ x ∧ x < (zup g 35 0 0) 4 0) ∧ 0 ≤ y ∧ y < (zup g 35 0 0) 4 1
  rotate_left
  · refine ⟨0, 0, h, _, ?_, layN hq1 h41 c, h13, dyK.n R hL hl hq hp, Or.inr rfl, Or.inl ⟨rfl, rfl⟩⟩
    rw [e_X11_runToState, xg_pos p3, F1, xb_some, xg_pos p3, F2, xb_some]
    by_cases c1 : 0 ≤ x ∧ x < h 6 0
    · rw [if_pos c1, if_neg (show ¬ (20 + 10 * x < 0) by omega), if_neg (show ¬ (0 ≤ y ∧ y < h 6 1) by omega), if_pos (by decide)]
    · rw [if_neg c1, if_pos (by decide)]
  obtain ⟨s, rfl⟩ : ∃ s : Nat, x = (s : Int) := ⟨x.toNat, by omega⟩
  obtain ⟨dd, rfl⟩ : ∃ dd : Nat, y = (dd : Int) := ⟨y.toNat, by omega⟩
  obtain ⟨t, d, hT, C, ht, hD⟩ := dayIn (s := s) (dd := dd) R1 hW1 hp (by omega) c.1.2 (by omega) c.2.2
  obtain ⟨gB, B1, B2, B3⟩ := lay2 (m := m) (s := s) (dd := dd) (t := t) (d := d) (by omega) hq1 h41 c.1.2 (by omega) c.2.2 ht hD hT
  obtain ⟨h0, g0, f1, f2, D0, z34, z50, fc, fk⟩ := begin2 (n := n) (m := m) (by omega) (by omega) hT C B1
  have d30 := hT.2.2.1
  have hd0 : h (40 + 10 * dd) 0 = d 0 := C.2.2.2.2.1.1
  have k0 : h0 130 1 = ((40 + 10 * dd : Nat) : Int) := D0.1.2.2.2.1
  have kd : h0 (40 + 10 * dd) 0 = d 0 := D0.1.2.2.2.2.2.2.1.1
  have h013 : h0 1 3 = 130 := by rw [fc _ _ (by omega)]; exact h13
  have pre : ∀ r : yO, (if h (40 + 10 * dd) 0 < k + 1 then (some (0, h)) else (xg (h 1 3 = 130) (xg (0 ≤ ((20 + 10 * s : Nat) : Int)) (xg (0 ≤ ((40 + 10 * dd : Nat) : Int)) (xb (f_X5_begin n [130, ((20 + 10 * s : Nat) : Int), ((40 + 10 * dd : Nat) : Int), 0, 0] h) (fun _ h3 => xg (h3 1 3 = 130) (xb (f_X5_go n [130, k + 1] h3) (fun _ h4 => xg (h4 1 3 = 130) (if (h4 130 6) = k + 1 then (some (1, h4)) else (some (0, h4)))))))))) : yO) = r → f_X11_runToState n [1, (s : Int), (dd : Int), k + 1] h = r := by
    intro r er
    rw [e_X11_runToState, xg_pos p3, F1, xb_some, xg_pos p3, F2, xb_some, if_pos (show 0 ≤ (s : Int) ∧ (s : Int) < h 6 0 by omega), if_pos (show 0 ≤ (dd : Int) ∧ (dd : Int) < h 6 1 by omega), show 20 + 10 * (s : Int) = ((20 + 10 * s : Nat) : Int) by omega, show 40 + 10 * (dd : Int) = ((40 + 10 * dd : Nat) : Int) by omega, if_neg (by omega), if_neg (by omega), if_neg (by omega), xg_pos (show 0 ≤ ((40 + 10 * dd : Nat) : Int) by omega), Int.toNat_natCast]
    exact er
  have keep : ∀ {h2 g2 : yH}, cPr h2 → frC h h2 → frZ (zup g 35 0 0) g2 → rQ g2 → dyK h g h2 g2 := fun a1 a2 a3 a4 => ⟨R1.z hL hl a2 a3 a4, a1, a2, fun a j w1 w2 => (a3 a j (by omega)).trans (zup_ne (by omega))⟩
  by_cases cd : d 0 < k + 1
  · obtain ⟨k2, hE, gE, sm⟩ := sim2 (x1 := 30) hT (d 0).toNat 0 (d 0).toNat n m _ 0 0 _ h0 g0 (by omega) (by omega) (by omega) (by omega) (by omega) (by omega) D0 z34
    have go := sm.go (by omega) (by omega)
    rw [show (((d 0).toNat : Nat) : Int) = d 0 by omega] at go
    obtain ⟨⟨y1, y2⟩, ⟨S2, p2, y3⟩, ⟨y4, y5⟩, y6, y7, -⟩ := sm
    refine ⟨0, 1, h, gE, pre _ ?_, B3 _ ?_, h13, keep hp frC.r (B2.t (fk.z.t y7.z)) y3.2.1.1.1.2.2.2, Or.inl (by rw [y4]; omega), Or.inr (Or.inl ⟨rfl, rfl, by rw [y4]; omega⟩)⟩
    · rw [hd0, if_pos cd]
    · rw [e_X12_play, f2, xb_some, go.2, xb_some]
  · obtain ⟨k2, hE, gE, kZ, hZ, gZ, sm, sz, i1, i2⟩ := core2 (n := n) (m := m) (D := (d 0).toNat) (Z := k.toNat + 1) (x1 := k + 1) hT (by omega) (by omega) D0 z34 (by omega) (by omega)
    have go := sm.go (by omega) (by omega)
    have gz := sz.go (by omega) (by omega)
    rw [show (((d 0).toNat : Nat) : Int) = d 0 by omega] at go
    rw [show ((k.toNat + 1 : Nat) : Int) = k + 1 by omega] at gz
    obtain ⟨⟨y1, y2⟩, ⟨S2, p2, y3⟩, ⟨y4, y5⟩, y6, y7, -⟩ := sm
    obtain ⟨⟨u1, u2⟩, ⟨S3, p3', u3⟩, ⟨u4, u5⟩, u6, u7, u8, -⟩ := sz
    have hz6 : hZ 130 6 = (kZ : Int) := u3.2.2.1.1.trans u4
    have eL : f_X12_layDay m [35, (s : Int), (dd : Int)] (zup g 35 0 0) = some (1, gE) := B3 _ (by rw [e_X12_play, f2, xb_some, go.2, xb_some])
    have eG : f_X5_go n [130, k + 1] h0 = some (0, hZ) := by
      rw [e_X5_go, k0, xg_pos (by omega), Int.toNat_natCast, kd, show min (k + 1) (d 0) = k + 1 by omega]
      exact gz.1
    have hZ13 : hZ 1 3 = 130 := by rw [u6 _ _ (by omega)]; exact h013
    rw [hd0, if_neg cd, xg_pos h13, xg_pos (by omega), xg_pos (by omega), f1, xb_some, xg_pos h013, eG, xb_some, xg_pos hZ13, hz6] at pre
    have kp := keep u3.1.2.1 (fc.t u6) (B2.t (fk.z.t y7.z)) y3.2.1.1.1.2.2.2
    by_cases ck : kZ = k.toNat + 1
    · refine ⟨1, 1, hZ, gE, pre _ (by rw [if_pos (by omega)]), eL, hZ13, kp, Or.inl (by rw [y4]; omega), Or.inr (Or.inr ⟨rfl, rfl, by rw [y4]; have := i1.mp ck; omega, ?_⟩)⟩
      have rr := u8 ck (by omega)
      rw [show k.toNat + 1 - 1 = k.toNat by omega] at rr
      have q9 := i2 ck
      refine ⟨40 + 10 * dd, s, dd, t, d, _, y3.2.1, by omega, by omega, ⟨u3.1.2.2.2.1, u3.1.2.2.2.2.2.2.2.1, (u3.1.2.2.2.2.2.2.1.2 k.toNat (by omega)).1⟩, ?_⟩
      unfold rcR at rr ⊢
      rw [q9 21 k.toNat (by omega) (by omega) (by omega), q9 22 k.toNat (by omega) (by omega) (by omega), q9 23 k.toNat (by omega) (by omega) (by omega), q9 24 k.toNat (by omega) (by omega) (by omega), q9 25 k.toNat (by omega) (by omega) (by omega)]
      exact rr
    · refine ⟨0, 1, hZ, gE, pre _ (by rw [if_neg (by omega)]), eL, hZ13, kp, Or.inl (by rw [y4]; omega), Or.inr (Or.inl ⟨rfl, rfl, ?_⟩)⟩
      have i3 : ¬ k.toNat + 1 ≤ k2 := fun w => ck (i1.mpr w)
      rw [y4]
      omega
end
section
/-! claimed, shares -/
theorem dyK.mix {h g hA gA hB : yH} (D : dyK h g hA gA) (hL : lnI h) (hl : h 4 1 ≤ 600) (hp : cPr hB) (f : frC h hB) : dyK h g hB gA := by
  obtain ⟨k1, k2, k3, k4⟩ := D
  have e : ∀ a j, a < 130 ∨ 142 ≤ a → hB a j = hA a j := fun a j w => (f a j w).trans (k3 a j w).symm
  refine ⟨k1.hf (fun k hk => ?_) ?_ (fun a j w => e a j (by omega)), hp, f, k4⟩
  · rw [k3 _ _ (by omega), k3 2 k (by omega)]
    exact hL k hk
  · rw [k3 _ _ (by omega)]
    exact hl
theorem add1_e {k : Int} (hk : -2147483648 ≤ k ∧ k < 2147483647) : yari 0 k 1 = k + 1 := by
  unfold yari
  show (Int32.ofInt k + Int32.ofInt 1).toInt = k + 1
  rw [Int32.toInt_add, Int32.toInt_ofInt_of_le (by omega) (by omega), show (Int32.ofInt 1).toInt = 1 from by decide, Int.bmod_eq_of_le (by omega) (by omega)]
/-- the reference's day alone -/
theorem layX {m n : Nat} {x y : Int} {h g : yH} (hn : 300 ≤ n) (hm : 300 ≤ m) (R : RR True h g) (hW : WH g) (hp : cPr h) (h13 : h 1 3 = 130) (hL : lnI h) (hl : h 4 1 ≤ 600) (hq : rQ g) (h4 : ∀ j, j < 12 → 0 ≤ g 4 j ∧ g 4 j ≤ 2) :
    ∃ w g2, f_X12_layDay m [35, x, y] (zup g 35 0 0) = some (w, g2) ∧ dyK h g h g2 ∧ (w = 0 ∨ (w = 1 ∧ 0 ≤ g2 35 34 ∧ g2 35 34 ≤ 30)) := by
  obtain ⟨v, h2, g2, e1, e2, e13, kk, e3⟩ := stopD (x := x) (y := y) hn hm R hW hp h13 hL hl hq h4
  refine ⟨v, g2, e2, kk.mix hL hl hp frC.r, ?_⟩
  rcases e3 with ev | ⟨ev, e3⟩
  · exact Or.inl ev
  · obtain ⟨b, e, s, dd, t, d, S, q, c, k2, p, hT, D, -, -, z, -, -⟩ := e3
    exact Or.inr ⟨ev, D.2.2.1.2.1⟩
/-- the class behind no state -/
theorem stateN {n : Nat} {x y : Int} {h g : yH} (hn : 300 ≤ n) (R : RR True h g) (hW : WH g) (hp : cPr h) (h13 : h 1 3 = 130) (hq : rQ g) (h4 : ∀ j, j < 12 → 0 ≤ g 4 j ∧ g 4 j ≤ 2) : ∃ h2, f_X11_runToState n [1, x, y, -2147483648] h = some (0, h2) ∧ cPr h2 ∧ frC h h2 := by
  obtain ⟨v, h2, g2, e1, -, e3⟩ := toState2 (m := 300) (x := x) (y := y) (z := -2147483648) hn (by decide) R hW hp h13 hq h4
  rcases e3 with ⟨ev, e3⟩ | ⟨ev, e3⟩
  · rw [ev] at e1
    exact ⟨h2, e1, e3.1, e3.2.1⟩
  · obtain ⟨b, e, s, dd, t, d, S, q, c, p, hT, D, hz, -, -⟩ := e3
    have := D.2.2.1.2.1
    omega
theorem RR_claimed {m n : Nat} {x y k w : Int} {h g : yH} (hn : 300 ≤ n) (hm : 300 ≤ m) (hk : -2147483648 ≤ k ∧ k ≤ 2147483647) (R : RR True h g) (hW : WH g) (hp : cPr h) (h13 : h 1 3 = 130) (hL : lnI h) (hl : h 4 1 ≤ 600) (hq : rQ g) (h4 : ∀ j, j < 12 → 0 ≤ g 4 j ∧ g 4 j ≤ 2) : ∃ v h2 g2, f_X11_claimed n [1, x, y, k, w] h = some (v, h2) ∧ f_X12_claimed m [35, x, y, k, w] g = some (v, g2) ∧ dyK h g h2 g2 := by
  obtain ⟨wL, gL, eL, kL, zL⟩ := layX (n := n) (m := m) (x := x) (y := y) hn hm R hW hp h13 hL hl hq h4
  have eN : ¬ (0 ≤ k ∧ k ≤ 29) → f_X12_claimed m [35, x, y, k, w] g = some (-1, gL) := fun c => by
    rcases zL with ev | ⟨ev, z⟩
    · rw [e_X12_claimed, eL, xb_some, if_pos ev]
    · rw [e_X12_claimed, eL, xb_some, if_neg (by omega), xg_pos (by omega), in_f (by omega), xb_some, if_pos rfl]
  by_cases c0 : k < 0
  · refine ⟨-1, h, gL, ?_, eN (by omega), kL⟩
    rw [e_X11_claimed, if_pos c0]
  by_cases c1 : k = 2147483647
  · obtain ⟨h2, e1, a1, a2⟩ := stateN (n := n) (x := x) (y := y) hn R hW hp h13 hq h4
    refine ⟨-1, h2, gL, ?_, eN (by omega), kL.mix hL hl a1 a2⟩
    rw [e_X11_claimed, if_neg c0, c1, show yari 0 2147483647 1 = -2147483648 from by decide +kernel, e1, xb_some, if_pos rfl]
  obtain ⟨v, w', h2, g2, e1, e2, e13, kk, hh, e3⟩ := deedD (x := x) (y := y) (k := k) hn hm R hW hp h13 hL hl hq h4 (by omega)
  have ea := add1_e (k := k) (by omega)
  rcases e3 with ⟨e4, e5⟩ | ⟨e4, e5, e6⟩ | ⟨e4, e5, e6, e7⟩
  · refine ⟨-1, h2, g2, ?_, ?_, kk⟩
    · rw [e_X11_claimed, if_neg c0, ea, e1, xb_some, if_pos e5]
    · rw [e_X12_claimed, e2, xb_some, if_pos e4]
  · refine ⟨-1, h2, g2, ?_, ?_, kk⟩
    · rw [e_X11_claimed, if_neg c0, ea, e1, xb_some, if_pos e5]
    · rw [e_X12_claimed, e2, xb_some, if_neg (by omega), xg_pos (by omega), in_f (by omega), xb_some, if_pos rfl]
  · obtain ⟨j, rfl⟩ : ∃ j : Nat, k = (j : Int) := ⟨k.toNat, by omega⟩
    rw [Int.toNat_natCast] at e7
    obtain ⟨e, s, dd, t, d, u, G, k1, k30, ⟨q1, q2, q3⟩, r1, r2⟩ := e7
    have e1e : ((e : Int) + 1).toNat = e + 1 := by omega
    have D0 := deedOf_e (m := m) (kk := j) (w := 0) G k30 (by decide)
    rw [show ((0 : Nat) : Int) = 0 from rfl, Nat.add_zero] at D0
    have C0 : ∀ r : yO, (if d (1 + 4 * j) = 1 then (if w = 0 then (xg (h2 1 3 = 130) (some ((h2 130 9), h2))) else (xg (h2 1 3 = 130) (some ((h2 130 8), h2)))) else (if d (1 + 4 * j) = 2 then (if w = 0 then (xg (h2 1 3 = 130) (some ((h2 130 9), h2))) else (xg (h2 1 3 = 130) (some ((h2 130 8), h2)))) else (some ((-1), h2)))) = r → f_X11_claimed n [1, x, y, (j : Int), w] h = r := fun r er => by
      rw [e_X11_claimed, if_neg c0, ea, e1, xb_some, if_neg (by omega), xg_pos e13, q1, xg_pos (by omega), Int.toNat_natCast e, xg_pos q2, xg_pos (by omega), e1e, Int.toNat_natCast j, q3]
      exact er
    have R0 : ∀ r : yO, (if d (1 + 4 * j) = 1 then (if w = 0 then (xg (g2 35 44 = 21) (xg (0 ≤ (j : Int) ∧ (j : Int) < 30) (some ((g2 21 j), g2)))) else (xg (g2 35 45 = 22) (xg (0 ≤ (j : Int) ∧ (j : Int) < 30) (some ((g2 22 j), g2))))) else (if d (1 + 4 * j) = 2 then (if w = 0 then (xg (g2 35 44 = 21) (xg (0 ≤ (j : Int) ∧ (j : Int) < 30) (some ((g2 21 j), g2)))) else (xg (g2 35 45 = 22) (xg (0 ≤ (j : Int) ∧ (j : Int) < 30) (some ((g2 22 j), g2))))) else (some ((-1), g2)))) = r → f_X12_claimed m [35, x, y, (j : Int), w] g = r := fun r er => by
      rw [e_X12_claimed, e2, xb_some, if_neg (by omega), xg_pos (by omega), in_t (by omega), xb_some, if_neg (by decide), D0, xb_some, D0, xb_some, Int.toNat_natCast j]
      exact er
    have Q : ∀ {j : Nat} {k : Int}, (j, k) ∈ rQL → g2 35 j = k := fun hm => G.1.1.2.2.2.p hm
    by_cases c3 : d (1 + 4 * j) = 1
    · obtain ⟨x1, x2⟩ := r1 (by decide) (Or.inl c3)
      by_cases cw : w = 0
      · refine ⟨g2 21 j, h2, g2, C0 _ ?_, R0 _ ?_, kk⟩
        · rw [if_pos c3, if_pos cw, xg_pos e13, x2]
        · rw [if_pos c3, if_pos cw, xg_pos (Q (j := 44) (k := 21) (by decide)), xg_pos (by omega)]
      · refine ⟨g2 22 j, h2, g2, C0 _ ?_, R0 _ ?_, kk⟩
        · rw [if_pos c3, if_neg cw, xg_pos e13, x1]
        · rw [if_pos c3, if_neg cw, xg_pos (Q (j := 45) (k := 22) (by decide)), xg_pos (by omega)]
    by_cases c4 : d (1 + 4 * j) = 2
    · obtain ⟨x1, x2⟩ := r1 (by decide) (Or.inr c4)
      by_cases cw : w = 0
      · refine ⟨g2 21 j, h2, g2, C0 _ ?_, R0 _ ?_, kk⟩
        · rw [if_neg c3, if_pos c4, if_pos cw, xg_pos e13, x2]
        · rw [if_neg c3, if_pos c4, if_pos cw, xg_pos (Q (j := 44) (k := 21) (by decide)), xg_pos (by omega)]
      · refine ⟨g2 22 j, h2, g2, C0 _ ?_, R0 _ ?_, kk⟩
        · rw [if_neg c3, if_pos c4, if_neg cw, xg_pos e13, x1]
        · rw [if_neg c3, if_pos c4, if_neg cw, xg_pos (Q (j := 45) (k := 22) (by decide)), xg_pos (by omega)]
    · refine ⟨-1, h2, g2, C0 _ ?_, R0 _ ?_, kk⟩
      · rw [if_neg c3, if_neg c4]
      · rw [if_neg c3, if_neg c4]
theorem RR_shares {m n : Nat} {x y k w : Int} {h g : yH} (hn : 300 ≤ n) (hm : 300 ≤ m) (hk : -2147483648 ≤ k ∧ k ≤ 2147483647) (R : RR True h g) (hW : WH g) (hp : cPr h) (h13 : h 1 3 = 130) (hL : lnI h) (hl : h 4 1 ≤ 600) (hq : rQ g) (h4 : ∀ j, j < 12 → 0 ≤ g 4 j ∧ g 4 j ≤ 2) : ∃ v h2 g2, f_X11_shares n [1, x, y, k, w] h = some (v, h2) ∧ f_X12_shares m [35, x, y, k, w] g = some (v, g2) ∧ dyK h g h2 g2 := by
  obtain ⟨wL, gL, eL, kL, zL⟩ := layX (n := n) (m := m) (x := x) (y := y) hn hm R hW hp h13 hL hl hq h4
  have kN : ∃ gN, dyK h g h gN ∧ (¬ (0 ≤ k ∧ k ≤ 29) → f_X12_shares m [35, x, y, k, w] g = some (-2, gN)) ∧ (¬ (0 ≤ w ∧ w ≤ 2) → f_X12_shares m [35, x, y, k, w] g = some (-2, gN)) := by
    by_cases cw : 0 ≤ w ∧ w ≤ 2
    · refine ⟨gL, kL, fun c => ?_, fun c => absurd cw c⟩
      rcases zL with ev | ⟨ev, z⟩
      · rw [e_X12_shares, in_t cw, xb_some, if_neg (by decide), eL, xb_some, if_pos ev]
      · rw [e_X12_shares, in_t cw, xb_some, if_neg (by decide), eL, xb_some, if_neg (by omega), xg_pos (by omega), in_f (by omega), xb_some, if_pos rfl]
    · refine ⟨zup g 35 0 0, dyK.c0 R hL hl hp, fun _ => ?_, fun _ => ?_⟩
      · rw [e_X12_shares, in_f cw, xb_some, if_pos rfl]
      · rw [e_X12_shares, in_f cw, xb_some, if_pos rfl]
  obtain ⟨gN, kN, eN, eW⟩ := kN
  by_cases c0 : k < 0
  · refine ⟨-2, h, gN, ?_, eN (by omega), kN⟩
    rw [e_X11_shares, if_pos c0]
  by_cases c1 : k = 2147483647
  · obtain ⟨h2, e1, a1, a2⟩ := stateN (n := n) (x := x) (y := y) hn R hW hp h13 hq h4
    refine ⟨-2, h2, gN, ?_, eN (by omega), kN.mix hL hl a1 a2⟩
    rw [e_X11_shares, if_neg c0, c1, show yari 0 2147483647 1 = -2147483648 from by decide +kernel, e1, xb_some, if_pos rfl]
  obtain ⟨v, w', h2, g2, e1, e2, e13, kk, hh, e3⟩ := deedD (x := x) (y := y) (k := k) hn hm R hW hp h13 hL hl hq h4 (by omega)
  have ea := add1_e (k := k) (by omega)
  have kM : dyK h g h2 gN := kN.mix hL hl kk.2.1 kk.2.2.1
  rcases e3 with ⟨e4, e5⟩ | ⟨e4, e5, e6⟩ | ⟨e4, e5, e6, e7⟩
  · have eC : f_X11_shares n [1, x, y, k, w] h = some (-2, h2) := by rw [e_X11_shares, if_neg c0, ea, e1, xb_some, if_pos e5]
    by_cases cw : 0 ≤ w ∧ w ≤ 2
    · refine ⟨-2, h2, g2, eC, ?_, kk⟩
      rw [e_X12_shares, in_t cw, xb_some, if_neg (by decide), e2, xb_some, if_pos e4]
    · exact ⟨-2, h2, gN, eC, eW cw, kM⟩
  · have eC : f_X11_shares n [1, x, y, k, w] h = some (-2, h2) := by rw [e_X11_shares, if_neg c0, ea, e1, xb_some, if_pos e5]
    by_cases cw : 0 ≤ w ∧ w ≤ 2
    · refine ⟨-2, h2, g2, eC, ?_, kk⟩
      rw [e_X12_shares, in_t cw, xb_some, if_neg (by decide), e2, xb_some, if_neg (by omega), xg_pos (by omega), in_f (by omega), xb_some, if_pos rfl]
    · exact ⟨-2, h2, gN, eC, eW cw, kM⟩
  · obtain ⟨j, rfl⟩ : ∃ j : Nat, k = (j : Int) := ⟨k.toNat, by omega⟩
    rw [Int.toNat_natCast] at e7
    obtain ⟨e, s, dd, t, d, u, G, k1, k30, ⟨q1, q2, q3⟩, r1, r2⟩ := e7
    have e1e : ((e : Int) + 1).toNat = e + 1 := by omega
    have D0 := deedOf_e (m := m) (kk := j) (w := 0) G k30 (by decide)
    rw [show ((0 : Nat) : Int) = 0 from rfl, Nat.add_zero] at D0
    have C0 : ∀ r : yO, (if d (1 + 4 * j) = 4 then (if w = 0 then (xg (h2 1 3 = 130) (some ((h2 130 10), h2))) else (if w = 1 then (xg (h2 1 3 = 130) (some ((h2 130 11), h2))) else (if w = 2 then (xg (h2 1 3 = 130) (some ((h2 130 12), h2))) else (some ((-2), h2))))) else (some ((-2), h2))) = r → f_X11_shares n [1, x, y, (j : Int), w] h = r := fun r er => by
      rw [e_X11_shares, if_neg c0, ea, e1, xb_some, if_neg (by omega), xg_pos e13, q1, xg_pos (by omega), Int.toNat_natCast e, xg_pos q2, xg_pos (by omega), e1e, Int.toNat_natCast j, q3]
      exact er
    by_cases cw : 0 ≤ w ∧ w ≤ 2
    rotate_left
    · refine ⟨-2, h2, gN, C0 _ ?_, eW cw, kM⟩
      by_cases c4 : d (1 + 4 * j) = 4
      · rw [if_pos c4, if_neg (by omega), if_neg (by omega), if_neg (by omega)]
      · rw [if_neg c4]
    have R0 : ∀ r : yO, (if d (1 + 4 * j) = 4 then (if w = 0 then (xg (g2 35 46 = 23) (xg (0 ≤ (j : Int) ∧ (j : Int) < 30) (some ((g2 23 j), g2)))) else (if w = 1 then (xg (g2 35 47 = 24) (xg (0 ≤ (j : Int) ∧ (j : Int) < 30) (some ((g2 24 j), g2)))) else (xg (g2 35 48 = 25) (xg (0 ≤ (j : Int) ∧ (j : Int) < 30) (some ((g2 25 j), g2)))))) else (some ((-2), g2))) = r → f_X12_shares m [35, x, y, (j : Int), w] g = r := fun r er => by
      rw [e_X12_shares, in_t cw, xb_some, if_neg (by decide), e2, xb_some, if_neg (by omega), xg_pos (by omega), in_t (by omega), xb_some, if_neg (by decide), D0, xb_some, Int.toNat_natCast j]
      exact er
    have Q : ∀ {j : Nat} {k : Int}, (j, k) ∈ rQL → g2 35 j = k := fun hm => G.1.1.2.2.2.p hm
    by_cases c4 : d (1 + 4 * j) = 4
    · obtain ⟨x1, x2, x3⟩ := r2 c4
      by_cases w0 : w = 0
      · refine ⟨g2 23 j, h2, g2, C0 _ ?_, R0 _ ?_, kk⟩
        · rw [if_pos c4, if_pos w0, xg_pos e13, x1]
        · rw [if_pos c4, if_pos w0, xg_pos (Q (j := 46) (k := 23) (by decide)), xg_pos (by omega)]
      by_cases w1 : w = 1
      · refine ⟨g2 24 j, h2, g2, C0 _ ?_, R0 _ ?_, kk⟩
        · rw [if_pos c4, if_neg w0, if_pos w1, xg_pos e13, x2]
        · rw [if_pos c4, if_neg w0, if_pos w1, xg_pos (Q (j := 47) (k := 24) (by decide)), xg_pos (by omega)]
      · refine ⟨g2 25 j, h2, g2, C0 _ ?_, R0 _ ?_, kk⟩
        · rw [if_pos c4, if_neg w0, if_neg w1, if_pos (by omega), xg_pos e13, x3]
        · rw [if_pos c4, if_neg w0, if_neg w1, xg_pos (Q (j := 48) (k := 25) (by decide)), xg_pos (by omega)]
    · refine ⟨-2, h2, g2, C0 _ ?_, R0 _ ?_, kk⟩
      · rw [if_neg c4]
      · rw [if_neg c4]
end
section
/-! sum: luck, fish, coasts, boats -/
def rbB (f : Nat → Int) : Nat → Int
  | 0 => -1
  | k + 1 => if rbB f k = -1 then (k : Int) else if f (rbB f k).toNat < f k then (k : Int) else rbB f k
theorem rbB_c {f : Nat → Int} : ∀ k, 1 ≤ k → ∃ j : Nat, j < k ∧ rbB f k = (j : Int) ∧ ∀ i, i < k → f i ≤ f j := by
  intro k
  induction k with
  | zero => intro h; omega
  | succ k ih =>
    intro _
    have st : rbB f (k + 1) = if rbB f k = -1 then (k : Int) else if f (rbB f k).toNat < f k then (k : Int) else rbB f k := rfl
    rw [st]
    by_cases c0 : k = 0
    · subst c0
      refine ⟨0, by omega, ?_, fun i hi => by rw [show i = 0 by omega]; exact Int.le_refl _⟩
      exact if_pos rfl
    · obtain ⟨j, j1, j2, j3⟩ := ih (by omega)
      rw [j2, if_neg (by omega), Int.toNat_natCast]
      by_cases c : f j < f k
      · rw [if_pos c]
        refine ⟨k, by omega, rfl, fun i hi => ?_⟩
        by_cases q : i = k
        · rw [q]; exact Int.le_refl _
        · have := j3 i (by omega); omega
      · rw [if_neg c]
        refine ⟨j, by omega, rfl, fun i hi => ?_⟩
        by_cases q : i = k
        · rw [q]; omega
        · exact j3 i (by omega)
def mnB (f : Nat → Int) (L : Int) : Nat → Int
  | 0 => L
  | k + 1 => min (mnB f L k) (f k)
def mxB (f : Nat → Int) (L : Int) : Nat → Int
  | 0 => L
  | k + 1 => max (mxB f L k) (f k)
theorem mnB_c {f : Nat → Int} {L : Int} : ∀ k, mnB f L k ≤ L ∧ (∀ i, i < k → mnB f L k ≤ f i) ∧ (mnB f L k = L ∨ ∃ i, i < k ∧ mnB f L k = f i) := by
  intro k
  induction k with
  | zero => exact ⟨Int.le_refl _, fun i hi => by omega, Or.inl rfl⟩
  | succ k ih =>
    obtain ⟨h1, h2, h3⟩ := ih
    have st : mnB f L (k + 1) = min (mnB f L k) (f k) := rfl
    rw [st]
    refine ⟨by omega, fun i hi => ?_, ?_⟩
    · by_cases q : i = k
      · rw [q]; omega
      · have := h2 i (by omega); omega
    · by_cases c : mnB f L k ≤ f k
      · rw [Int.min_eq_left c]
        rcases h3 with h3 | ⟨i, i1, i2⟩
        · exact Or.inl h3
        · exact Or.inr ⟨i, by omega, i2⟩
      · rw [Int.min_eq_right (by omega)]
        exact Or.inr ⟨k, by omega, rfl⟩
theorem mxB_c {f : Nat → Int} {L : Int} : ∀ k, L ≤ mxB f L k ∧ (∀ i, i < k → f i ≤ mxB f L k) ∧ (mxB f L k = L ∨ ∃ i, i < k ∧ mxB f L k = f i) := by
  intro k
  induction k with
  | zero => exact ⟨Int.le_refl _, fun i hi => by omega, Or.inl rfl⟩
  | succ k ih =>
    obtain ⟨h1, h2, h3⟩ := ih
    have st : mxB f L (k + 1) = max (mxB f L k) (f k) := rfl
    rw [st]
    refine ⟨by omega, fun i hi => ?_, ?_⟩
    · by_cases q : i = k
      · rw [q]; omega
      · have := h2 i (by omega); omega
    · by_cases c : f k ≤ mxB f L k
      · rw [Int.max_eq_left c]
        rcases h3 with h3 | ⟨i, i1, i2⟩
        · exact Or.inl h3
        · exact Or.inr ⟨i, by omega, i2⟩
      · rw [Int.max_eq_right (by omega)]
        exact Or.inr ⟨k, by omega, rfl⟩
/-- what the boats have, for the sums -/
def btF (B : Nat) (b : Nat) (t : Nat → Int) (h g : yH) : Prop := B ≤ 6 ∧ t 6 = (B : Int) ∧ (h 130 0 = (b : Int) ∧ h b 10 = (B : Int)) ∧ h 130 4 = 139 ∧ rQ g ∧ g 35 28 = (B : Int) ∧ ∀ i, i < B → h 139 i = g 17 i ∧ 0 ≤ g 17 i ∧ g 17 i ≤ 121770
theorem dR.btF {b e s dd : Nat} {t d : Nat → Int} {K : Int} {S q c : Nat} {p : Nat → Int} {h g : yH} (H : dR b e s dd t d K S q c p h g) (hT : dT t d) (hc : c ≤ 121770) : btF (t 6).toNat b t h g := by
  have w6 := hT.1.wd.2.2.2.2
  refine ⟨by omega, by omega, ⟨H.1.2.2.1, by rw [H.1.2.2.2.2.1.2.2.2.2.2.2.1]; omega⟩, H.1.2.1.2.2.1, H.2.1.1.1.2.2.2, ?_, fun i hi => ?_⟩
  · rw [H.2.1.1.2.2.2.2.2.2.1, bU_n (j := 6) (by omega)]
    omega
  · obtain ⟨-, ⟨a3, a4, a5⟩, -⟩ := H.2.2.2.2.2 i (by omega)
    exact ⟨a3, a4, by omega⟩
theorem rbC_l {B b : Nat} {t : Nat → Int} {h g : yH} (H : btF B b t h g) : ∀ (mm k n : Nat), mm + k = B → mm < n → xl_X5_richestBoat n 4 [130, rbB (g 17) k, (k : Int)] h = some (rbB (g 17) B, h) := by
  obtain ⟨B6, -, ⟨h0, h10⟩, h4, -, -, hb⟩ := H
  intro mm
  induction mm with
  | zero =>
    intro k n e1 e2
    obtain ⟨n, rfl⟩ : ∃ n', n = n' + 1 := ⟨n - 1, by omega⟩
    rw [e_X5_richestBoat_4, h0, xg_pos (by omega), Int.toNat_natCast, h10, if_neg (by omega), show k = B by omega]
  | succ mm ih =>
    intro k n e1 e2
    obtain ⟨n, rfl⟩ : ∃ n', n = n' + 1 := ⟨n - 1, by omega⟩
    have nx := ih (k + 1) n (by omega) (by omega)
    have st : rbB (g 17) (k + 1) = if rbB (g 17) k = -1 then (k : Int) else if g 17 (rbB (g 17) k).toNat < g 17 k then (k : Int) else rbB (g 17) k := rfl
    rw [st] at nx
    rw [e_X5_richestBoat_4, h0, xg_pos (by omega), Int.toNat_natCast b, h10, if_pos (by omega)]
    by_cases c0 : rbB (g 17) k = -1
    · rw [if_pos c0] at nx
      rw [if_pos c0, xg_pos (by omega), show (k : Int) + 1 = ((k + 1 : Nat) : Int) by omega]
      exact nx
    · have k1 : 1 ≤ k := by
        by_cases q : k = 0
        · subst q; exact absurd rfl c0
        · omega
      obtain ⟨j, j1, j2, j3⟩ := rbB_c (f := g 17) k k1
      rw [if_neg c0, j2, Int.toNat_natCast j] at nx
      rw [if_neg c0, j2, xg_pos h4, xg_pos (by omega), xg_pos h4, xg_pos (by omega), Int.toNat_natCast j, Int.toNat_natCast k, (hb j (by omega)).1, (hb k (by omega)).1]
      by_cases c : g 17 j < g 17 k
      · rw [if_pos c] at nx
        rw [if_pos c, xg_pos (by omega), show (k : Int) + 1 = ((k + 1 : Nat) : Int) by omega]
        exact nx
      · rw [if_neg c] at nx
        rw [if_neg c, xg_pos (by omega), show (k : Int) + 1 = ((k + 1 : Nat) : Int) by omega]
        exact nx
theorem rbR_l {B b : Nat} {t : Nat → Int} {h g : yH} (H : btF B b t h g) : ∀ (mm k n : Nat), mm + k = B → mm < n → xl_X12_richest n 4 [35, rbB (g 17) k, (k : Int)] g = some (rbB (g 17) B, g) := by
  obtain ⟨B6, -, -, -, hq, h28, hb⟩ := H
  intro mm
  induction mm with
  | zero =>
    intro k n e1 e2
    obtain ⟨n, rfl⟩ : ∃ n', n = n' + 1 := ⟨n - 1, by omega⟩
    rw [e_X12_richest_4, h28, if_neg (by omega), show k = B by omega]
  | succ mm ih =>
    intro k n e1 e2
    obtain ⟨n, rfl⟩ : ∃ n', n = n' + 1 := ⟨n - 1, by omega⟩
    have nx := ih (k + 1) n (by omega) (by omega)
    have st : rbB (g 17) (k + 1) = if rbB (g 17) k = -1 then (k : Int) else if g 17 (rbB (g 17) k).toNat < g 17 k then (k : Int) else rbB (g 17) k := rfl
    rw [st] at nx
    rw [e_X12_richest_4, h28, if_pos (by omega)]
    by_cases c0 : rbB (g 17) k = -1
    · rw [if_pos c0] at nx
      rw [if_pos c0, xg_pos (by omega), show (k : Int) + 1 = ((k + 1 : Nat) : Int) by omega]
      exact nx
    · have k1 : 1 ≤ k := by
        by_cases q : k = 0
        · subst q; exact absurd rfl c0
        · omega
      obtain ⟨j, j1, j2, j3⟩ := rbB_c (f := g 17) k k1
      rw [if_neg c0, j2, Int.toNat_natCast j] at nx
      rw [if_neg c0, j2, xg_pos (hq.p (j := 42) (k := 17) (by decide)), xg_pos (by omega), xg_pos (hq.p (j := 42) (k := 17) (by decide)), xg_pos (by omega), Int.toNat_natCast j, Int.toNat_natCast k]
      by_cases c : g 17 j < g 17 k
      · rw [if_pos c] at nx
        rw [if_pos c, xg_pos (by omega), show (k : Int) + 1 = ((k + 1 : Nat) : Int) by omega]
        exact nx
      · rw [if_neg c] at nx
        rw [if_neg c, xg_pos (by omega), show (k : Int) + 1 = ((k + 1 : Nat) : Int) by omega]
        exact nx
theorem lkC_l {B b j : Nat} {t : Nat → Int} {h g : yH} (H : btF B b t h g) (hj : j < B) {L : Int} (hL : 0 ≤ L ∧ L ≤ 121770) : ∀ (mm k n : Nat), mm + k = B → mm < n → xl_X5_luck n 21 [130, (j : Int), mnB (g 17) L k, (k : Int)] h = some (g 17 j - mnB (g 17) L B, h) := by
  obtain ⟨B6, -, ⟨h0, h10⟩, h4, -, -, hb⟩ := H
  have mb : ∀ k, k ≤ B → 0 ≤ mnB (g 17) L k ∧ mnB (g 17) L k ≤ 121770 := fun k hk => by
    obtain ⟨a1, a2, a3⟩ := mnB_c (f := g 17) (L := L) k
    rcases a3 with a3 | ⟨i, i1, i2⟩
    · rw [a3]; exact hL
    · rw [i2]; exact (hb i (by omega)).2
  intro mm
  induction mm with
  | zero =>
    intro k n e1 e2
    obtain ⟨n, rfl⟩ : ∃ n', n = n' + 1 := ⟨n - 1, by omega⟩
    have m1 := mb k (by omega)
    have m2 := (hb j hj).2
    rw [e_X5_luck_21, h0, xg_pos (by omega), Int.toNat_natCast, h10, if_neg (by omega), xg_pos h4, xg_pos (by omega), Int.toNat_natCast, (hb j hj).1, xg_pos (by omega), show k = B by omega]
  | succ mm ih =>
    intro k n e1 e2
    obtain ⟨n, rfl⟩ : ∃ n', n = n' + 1 := ⟨n - 1, by omega⟩
    rw [e_X5_luck_21, h0, xg_pos (by omega), Int.toNat_natCast b, h10, if_pos (by omega), xg_pos h4, xg_pos (by omega), Int.toNat_natCast k, (hb k (by omega)).1, xg_pos (by omega), show (k : Int) + 1 = ((k + 1 : Nat) : Int) by omega]
    exact ih (k + 1) n (by omega) (by omega)
theorem less_e {n : Nat} {x y : Int} {g : yH} : f_X12_lesser n [x, y] g = some (min x y, g) := by
  rw [e_X12_lesser]
  by_cases c : x < y
  · rw [if_pos c, Int.min_eq_left (by omega)]
  · rw [if_neg c, Int.min_eq_right (by omega)]
theorem lkR_l {B b : Nat} {t : Nat → Int} {h g : yH} (H : btF B b t h g) {L M : Int} (hL : 0 ≤ L ∧ L ≤ 121770) (hM : 0 ≤ M ∧ M ≤ 121770) : ∀ (mm k n : Nat), mm + k = B → mm < n → xl_X12_luck n 22 [35, mnB (g 17) L k, mxB (g 17) M k, (k : Int)] g = some (mxB (g 17) M B - mnB (g 17) L B, g) := by
  obtain ⟨B6, -, -, -, hq, h28, hb⟩ := H
  have mb : ∀ k, k ≤ B → 0 ≤ mnB (g 17) L k ∧ mnB (g 17) L k ≤ 121770 := fun k hk => by
    obtain ⟨a1, a2, a3⟩ := mnB_c (f := g 17) (L := L) k
    rcases a3 with a3 | ⟨i, i1, i2⟩
    · rw [a3]; exact hL
    · rw [i2]; exact (hb i (by omega)).2
  have xb : ∀ k, k ≤ B → 0 ≤ mxB (g 17) M k ∧ mxB (g 17) M k ≤ 121770 := fun k hk => by
    obtain ⟨a1, a2, a3⟩ := mxB_c (f := g 17) (L := M) k
    rcases a3 with a3 | ⟨i, i1, i2⟩
    · rw [a3]; exact hM
    · rw [i2]; exact (hb i (by omega)).2
  intro mm
  induction mm with
  | zero =>
    intro k n e1 e2
    obtain ⟨n, rfl⟩ : ∃ n', n = n' + 1 := ⟨n - 1, by omega⟩
    have m1 := mb k (by omega)
    have m2 := xb k (by omega)
    rw [e_X12_luck_22, h28, if_neg (by omega), xg_pos (by omega), show k = B by omega]
  | succ mm ih =>
    intro k n e1 e2
    obtain ⟨n, rfl⟩ : ∃ n', n = n' + 1 := ⟨n - 1, by omega⟩
    rw [e_X12_luck_22, h28, if_pos (by omega), xg_pos (hq.p (j := 42) (k := 17) (by decide)), xg_pos (by omega), less_e, xb_some, xg_pos (hq.p (j := 42) (k := 17) (by decide)), xg_pos (by omega), gr_e, xb_some, xg_pos (by omega), Int.toNat_natCast k, show (k : Int) + 1 = ((k + 1 : Nat) : Int) by omega]
    exact ih (k + 1) n (by omega) (by omega)
theorem luck2 {B b n m : Nat} {t : Nat → Int} {h g : yH} (H : btF B b t h g) (hn : 10 ≤ n) (hm : 10 ≤ m) : ∃ v, f_X5_luck n [130] h = some (v, h) ∧ f_X12_luck m [35] g = some (v, g) := by
  have rc := rbC_l H B 0 n (by omega) (by have := H.1; omega)
  rw [show ((0 : Nat) : Int) = 0 from rfl, show rbB (g 17) 0 = -1 from rfl] at rc
  obtain ⟨B6, -, ⟨h0, h10⟩, h4, hq, h28, hb⟩ := id H
  by_cases cB : B = 0
  · subst cB
    have lr := lkR_l H (L := 0) (M := 0) ⟨by decide, by decide⟩ ⟨by decide, by decide⟩ 0 0 m rfl (by omega)
    refine ⟨0, ?_, ?_⟩
    · rw [e_X5_luck, e_X5_richestBoat, rc, xb_some, show rbB (g 17) 0 = -1 from rfl, if_pos rfl]
    · rw [e_X12_luck, h28, if_pos (show ((0 : Nat) : Int) = 0 from rfl)]
      exact lr
  · obtain ⟨j, j1, j2, j3⟩ := rbB_c (f := g 17) B (by omega)
    have b0 := (hb 0 (by omega)).2
    have bj := (hb j j1).2
    have lc := lkC_l H j1 (L := g 17 j) bj B 0 n (by omega) (by omega)
    have lr := lkR_l H (L := g 17 0) (M := g 17 0) b0 b0 B 0 m (by omega) (by omega)
    rw [show ((0 : Nat) : Int) = 0 from rfl] at lc lr
    obtain ⟨a1, a2, a3⟩ := mnB_c (f := g 17) (L := g 17 j) B
    obtain ⟨b1, b2, b3⟩ := mnB_c (f := g 17) (L := g 17 0) B
    obtain ⟨x1, x2, x3⟩ := mxB_c (f := g 17) (L := g 17 0) B
    have e1 : mnB (g 17) (g 17 j) B = mnB (g 17) (g 17 0) B := by
      have l1 : mnB (g 17) (g 17 j) B ≤ mnB (g 17) (g 17 0) B := by
        rcases b3 with b3 | ⟨i, i1, i2⟩
        · rw [b3]; exact a2 0 (by omega)
        · rw [i2]; exact a2 i i1
      have l2 : mnB (g 17) (g 17 0) B ≤ mnB (g 17) (g 17 j) B := by
        rcases a3 with a3 | ⟨i, i1, i2⟩
        · rw [a3]; exact b2 j j1
        · rw [i2]; exact b2 i i1
      omega
    have e2 : mxB (g 17) (g 17 0) B = g 17 j := by
      have l1 := x2 j j1
      have l2 : mxB (g 17) (g 17 0) B ≤ g 17 j := by
        rcases x3 with x3 | ⟨i, i1, i2⟩
        · rw [x3]; exact j3 0 (by omega)
        · rw [i2]; exact j3 i i1
      omega
    refine ⟨g 17 j - mnB (g 17) (g 17 j) B, ?_, ?_⟩
    · rw [e_X5_luck, e_X5_richestBoat, rc, xb_some, j2, if_neg (by omega), xg_pos h4, xg_pos (by omega), Int.toNat_natCast, (hb j j1).1]
      exact lc
    · rw [e_X12_luck, h28, if_neg (by omega), xg_pos (hq.p (j := 42) (k := 17) (by decide))]
      rw [e2, ← e1] at lr
      exact lr
/-! all fish there -/
def sfB (f : Nat → Int) (S : Nat) : Nat → Int
  | 0 => 0
  | k + 1 => sfB f S k + (if k < S ∧ 0 < f k then f k else 0)
theorem sfB_b {f : Nat → Int} {S : Nat} (hf : ∀ i, i < S → 0 ≤ f i ∧ f i ≤ 99) : ∀ k, 0 ≤ sfB f S k ∧ sfB f S k ≤ 99 * (k : Int) := by
  intro k
  induction k with
  | zero => exact ⟨Int.le_refl _, show (0 : Int) ≤ 99 * ((0 : Nat) : Int) by decide⟩
  | succ k ih =>
    show 0 ≤ sfB f S k + (if k < S ∧ 0 < f k then f k else 0) ∧ sfB f S k + (if k < S ∧ 0 < f k then f k else 0) ≤ 99 * ((k + 1 : Nat) : Int)
    by_cases c : k < S ∧ 0 < f k
    · rw [if_pos c]
      have := hf k c.1
      omega
    · rw [if_neg c]
      omega
theorem sfB_z {f : Nat → Int} {S : Nat} : ∀ m, sfB f S (S + m) = sfB f S S := by
  intro m
  induction m with
  | zero => rfl
  | succ m ih =>
    show sfB f S (S + m) + (if S + m < S ∧ 0 < f (S + m) then f (S + m) else 0) = sfB f S S
    rw [if_neg (by omega), ih, Int.add_zero]
theorem fish2 {b e s dd n m : Nat} {t d : Nat → Int} {K : Int} {S q c : Nat} {p : Nat → Int} {h g : yH} (H : dR b e s dd t d K S q c p h g) (hn : 10 ≤ n) (hm : 10 ≤ m) : ∃ v, f_X7_fishThere n [131] h = some (v, h) ∧ f_X12_fishOf m [35, 63] g = some (v, g) := by
  obtain ⟨S6, k2, k3, k4, k5⟩ := id H.2.2.2.1
  have hf : ∀ i, i < S → 0 ≤ g 14 i ∧ g 14 i ≤ 99 := fun i hi => ((k5 i (by omega)).2.1 hi).1.2.1
  have p7 : h 131 1 = 133 := H.1.2.1.2.2.2.2.2.2.1
  have lc : ∀ (mm k n : Nat), mm + k = 6 → mm < n → xl_X7_fishThere n 4 [131, sfB (g 14) S k, (k : Int)] h = some (sfB (g 14) S 6, h) := by
    intro mm
    induction mm with
    | zero =>
      intro k n e1 e2
      obtain ⟨n, rfl⟩ : ∃ n', n = n' + 1 := ⟨n - 1, by omega⟩
      rw [e_X7_fishThere_4, if_neg (by omega), show k = 6 by omega]
    | succ mm ih =>
      intro k n e1 e2
      obtain ⟨n, rfl⟩ : ∃ n', n = n' + 1 := ⟨n - 1, by omega⟩
      have nx := ih (k + 1) n (by omega) (by omega)
      have st : sfB (g 14) S (k + 1) = sfB (g 14) S k + (if k < S ∧ 0 < g 14 k then g 14 k else 0) := rfl
      rw [st] at nx
      obtain ⟨t1, -⟩ := there2 (n := n) (m := 0) H (show k < 6 by omega)
      have bb := sfB_b (f := g 14) (S := S) hf k
      rw [e_X7_fishThere_4, if_pos (by omega), t1, xb_some]
      by_cases cT : k < S ∧ 0 < g 14 k
      · rw [if_pos cT] at nx
        have e2' := (((k5 k (by omega)).2.1 cT.1).2 cT.2).2.1
        have := hf k cT.1
        rw [if_pos cT, if_neg (by decide), xg_pos p7, xg_pos (by omega), Int.toNat_natCast, e2', xg_pos (by omega), xg_pos (by omega), show (k : Int) + 1 = ((k + 1 : Nat) : Int) by omega]
        exact nx
      · rw [if_neg cT] at nx
        rw [if_neg cT, if_pos rfl, xg_pos (by omega), xg_pos (by omega), show (k : Int) + 1 = ((k + 1 : Nat) : Int) by omega]
        exact nx
  have i63 : ∀ k : Fin 6, (63 : Int) / 2 ^ k.val % 2 = 1 := by decide
  have lr : ∀ (mm k n : Nat), mm + k = S → mm < n → xl_X12_fishOf n 4 [35, 63, sfB (g 14) S k, (k : Int)] g = some (sfB (g 14) S S, g) := by
    intro mm
    induction mm with
    | zero =>
      intro k n e1 e2
      obtain ⟨n, rfl⟩ : ∃ n', n = n' + 1 := ⟨n - 1, by omega⟩
      rw [e_X12_fishOf_4, k3, if_neg (by omega), show k = S by omega]
    | succ mm ih =>
      intro k n e1 e2
      obtain ⟨n, rfl⟩ : ∃ n', n = n' + 1 := ⟨n - 1, by omega⟩
      have nx := ih (k + 1) n (by omega) (by omega)
      have st : sfB (g 14) S (k + 1) = sfB (g 14) S k + (if k < S ∧ 0 < g 14 k then g 14 k else 0) := rfl
      have bb := sfB_b (f := g 14) (S := S) hf k
      have hk := hf k (by omega)
      have e0 : (if k < S ∧ 0 < g 14 k then g 14 k else 0) = g 14 k := by
        by_cases c : k < S ∧ 0 < g 14 k
        · rw [if_pos c]
        · rw [if_neg c]; omega
      rw [st, e0] at nx
      have i6 := i63 ⟨k, by omega⟩
      simp only at i6
      rw [e_X12_fishOf_4, k3, if_pos (by omega), isIn_e (by decide) (by omega), xb_some, i6, if_neg (by decide), xg_pos (H.Q (j := 37) (k := 14) (by decide)), xg_pos (by omega), Int.toNat_natCast, xg_pos (by omega), xg_pos (by omega), show (k : Int) + 1 = ((k + 1 : Nat) : Int) by omega]
      exact nx
  have c1 := lc 6 0 n rfl (by omega)
  have c2 := lr S 0 m (by omega) (by omega)
  rw [show ((0 : Nat) : Int) = 0 from rfl, show sfB (g 14) S 0 = 0 from rfl] at c1 c2
  have z := sfB_z (f := g 14) (S := S) (6 - S)
  rw [show S + (6 - S) = 6 by omega] at z
  refine ⟨sfB (g 14) S S, ?_, ?_⟩
  · rw [e_X7_fishThere, c1, z]
  · rw [e_X12_fishOf, c2]
end
section
/-! the coasts -/
def csB (f : Nat → Int) (t : Nat → Int) (c : Nat) : Nat → Int
  | 0 => 0
  | k + 1 => csB f t c k + (if t (33 + 3 * k) = (c : Int) then f k else 0)
theorem csB_b {f t : Nat → Int} {c B : Nat} (hf : ∀ i, i < B → 0 ≤ f i ∧ f i ≤ 121770) : ∀ k, k ≤ B → 0 ≤ csB f t c k ∧ csB f t c k ≤ 121770 * (k : Int) := by
  intro k
  induction k with
  | zero => intro _; exact ⟨Int.le_refl _, show (0 : Int) ≤ 121770 * ((0 : Nat) : Int) by decide⟩
  | succ k ih =>
    intro hk
    have i1 := ih (by omega)
    have h1 := hf k (by omega)
    show 0 ≤ csB f t c k + (if t (33 + 3 * k) = (c : Int) then f k else 0) ∧ csB f t c k + (if t (33 + 3 * k) = (c : Int) then f k else 0) ≤ 121770 * ((k + 1 : Nat) : Int)
    by_cases q : t (33 + 3 * k) = (c : Int)
    · rw [if_pos q]; omega
    · rw [if_neg q]; omega
def bs1 (f : Nat → Int) : Int := if f 0 < f 1 then 1 else 0
def bs2 (f : Nat → Int) : Int := if f (bs1 f).toNat < f 2 then 2 else bs1 f
theorem fill3_e {n : Nat} {h : yH} (hn : 4 ≤ n) : f_J7_fill_53178_f n [141, 0] h = some (0, zup (zup (zup h 141 0 0) 141 1 0) 141 2 0) := by
  obtain ⟨n, rfl⟩ : ∃ n', n = n' + 4 := ⟨n - 4, by omega⟩
  rw [e_J7_fill_53178_f, e_J7_fill_53178_f_5, if_pos (by decide), xg_pos (by decide), xh_e, xg_pos (by decide), show (0 : Int) + 1 = 1 from rfl, e_J7_fill_53178_f_5, if_pos (by decide), xg_pos (by decide), xh_e, xg_pos (by decide), show (1 : Int) + 1 = 2 from rfl, e_J7_fill_53178_f_5, if_pos (by decide), xg_pos (by decide), xh_e, xg_pos (by decide), show (2 : Int) + 1 = 3 from rfl, e_J7_fill_53178_f_5, if_neg (by decide)]
  rfl
theorem coC_l {b e s dd : Nat} {t d : Nat → Int} {K : Int} {S q c : Nat} {p : Nat → Int} {h g : yH} {B : Nat} (H : dR b e s dd t d K S q c p h g) (hT : dT t d) (F : btF B b t h g) : ∀ (mm k n : Nat) (h1 : yH), mm + k = B → mm < n → (∀ a j, ¬ (a = 141) → h1 a j = h a j) → (∀ c, c < 3 → h1 141 c = csB (g 17) t c k) →
    ∃ h2 n2, n2 + mm + 1 = n ∧ xl_X5_richestCoast n 10 [130, (k : Int)] h1 = xl_X5_richestCoast n2 54 [130, 0, 1] h2 ∧ (∀ a j, ¬ (a = 141) → h2 a j = h a j) ∧ ∀ c, c < 3 → h2 141 c = csB (g 17) t c B := by
  obtain ⟨B6, t6, ⟨h0, h10⟩, h4, hq, h28, hb⟩ := id F
  have p15 : h 130 15 = 141 := H.1.2.1.2.2.2.2.1
  have hb30 := H.1.1
  have p13 : h b 13 = (b : Int) + 7 := H.1.2.2.2.2.2.1.2.2.2.2.2.2
  intro mm
  induction mm with
  | zero =>
    intro k n h1 e1 e2 fr hc
    obtain ⟨n, rfl⟩ : ∃ n', n = n' + 1 := ⟨n - 1, by omega⟩
    refine ⟨h1, n, by omega, ?_, fr, ?_⟩
    · rw [e_X5_richestCoast_10, fr 130 0 (by omega), h0, xg_pos (by omega), Int.toNat_natCast, fr b 10 (by omega), h10, if_neg (by omega)]
    · rw [show B = k by omega]
      exact hc
  | succ mm ih =>
    intro k n h1 e1 e2 fr hc
    obtain ⟨n, rfl⟩ : ∃ n', n = n' + 1 := ⟨n - 1, by omega⟩
    have wk := (hT.1.bt (b := k) (by omega)).2.2
    have h7 : h (b + 7) k = t (33 + 3 * k) := (H.1.2.2.2.2.1.2.2.2.2.2.2.2.2.2.2 k (by omega)).2.2
    obtain ⟨w, ew⟩ : ∃ w : Nat, t (33 + 3 * k) = (w : Int) := ⟨(t (33 + 3 * k)).toNat, by omega⟩
    have e7 : ((b : Int) + 7).toNat = b + 7 := by omega
    have cb := csB_b (f := g 17) (t := t) (c := w) (B := B) (fun i hi => (hb i hi).2) k (by omega)
    have hk := (hb k (by omega))
    obtain ⟨h2, n2, f1, f2, f3, f4⟩ := ih (k + 1) n (zup h1 141 w (csB (g 17) t w k + g 17 k)) (by omega) (by omega) (fun a j q => by rw [zup_ne (by omega)]; exact fr a j q) (fun c hc3 => by
      show zup h1 141 w (csB (g 17) t w k + g 17 k) 141 c = csB (g 17) t c k + (if t (33 + 3 * k) = (c : Int) then g 17 k else 0)
      by_cases q : c = w
      · rw [q, zup_at, if_pos ew]
      · rw [zup_ne (by omega), if_neg (by rw [ew]; omega), hc c hc3, Int.add_zero])
    refine ⟨h2, n2, by omega, ?_, f3, f4⟩
    rw [e_X5_richestCoast_10, fr 130 0 (by omega), h0, xg_pos (by omega), Int.toNat_natCast b, fr b 10 (by omega), h10, if_pos (by omega), fr 130 15 (by omega), xg_pos p15, xg_pos (by omega), fr b 13 (by omega), xg_pos p13, xg_pos (by omega), e7, Int.toNat_natCast k, fr (b + 7) k (by omega), h7, ew, xg_pos (by omega), fr 130 4 (by omega), xg_pos h4, xg_pos (by omega), Int.toNat_natCast w, fr 139 k (by omega), hk.1, hc w (by omega), xg_pos (by omega), xg_pos (by omega), xg_pos (by omega), show (k : Int) + 1 = ((k + 1 : Nat) : Int) by omega]
    exact f2
theorem coR_l {b e s dd : Nat} {t d : Nat → Int} {K : Int} {S q c : Nat} {p : Nat → Int} {h g : yH} {B w : Nat} {be mo : Int} (H : dR b e s dd t d K S q c p h g) (F : btF B b t h g) : ∀ (mm k n : Nat), mm + k = B → xl_X12_richestCoast (n + mm + 1) 17 [35, be, mo, (w : Int), csB (g 17) t w k, (k : Int)] g = (if mo < csB (g 17) t w B then (xb (f_X12_greater n [mo, csB (g 17) t w B] g) (fun v2 h2 => xg (-2147483648 ≤ (w : Int) + 1 ∧ (w : Int) + 1 ≤ 2147483647) (xl_X12_richestCoast n 6 [35, (w : Int), v2, ((w : Int) + 1)] h2))) else (xb (f_X12_greater n [mo, csB (g 17) t w B] g) (fun v1 h1 => xg (-2147483648 ≤ (w : Int) + 1 ∧ (w : Int) + 1 ≤ 2147483647) (xl_X12_richestCoast n 6 [35, be, v1, ((w : Int) + 1)] h1)))) := by
  obtain ⟨B6, t6, ⟨h0, h10⟩, h4, hq, h28, hb⟩ := id F
  intro mm
  induction mm with
  | zero =>
    intro k n e1
    rw [e_X12_richestCoast_17, h28, if_neg (by omega), show k = B by omega]
  | succ mm ih =>
    intro k n e1
    have nx := ih (k + 1) n (by omega)
    have st : csB (g 17) t w (k + 1) = csB (g 17) t w k + (if t (33 + 3 * k) = (w : Int) then g 17 k else 0) := rfl
    have cb := csB_b (f := g 17) (t := t) (c := w) (B := B) (fun i hi => (hb i hi).2) k (by omega)
    have hk := (hb k (by omega)).2
    rw [st] at nx
    rw [show n + (mm + 1) + 1 = (n + mm + 1) + 1 by omega, e_X12_richestCoast_17, h28, if_pos (by omega), xg_pos (by omega), xg_pos (by omega), xg_pos (by omega), of_e H.2.1.1.1 (k := 33 + 3 * k) (by omega) (by omega), xb_some]
    by_cases q : t (33 + 3 * k) = (w : Int)
    · rw [if_pos q] at nx
      rw [if_pos q, xg_pos (hq.p (j := 42) (k := 17) (by decide)), xg_pos (by omega), Int.toNat_natCast k, xg_pos (by omega), xg_pos (by omega), show (k : Int) + 1 = ((k + 1 : Nat) : Int) by omega]
      exact nx
    · rw [if_neg q] at nx
      rw [if_neg q, xg_pos (by omega), xg_pos (by omega), show (k : Int) + 1 = ((k + 1 : Nat) : Int) by omega]
      exact nx
theorem coast2 {b e s dd n m : Nat} {t d : Nat → Int} {K : Int} {S q c : Nat} {p : Nat → Int} {h g : yH} {B : Nat} (H : dR b e s dd t d K S q c p h g) (hT : dT t d) (F : btF B b t h g) (hn : 40 ≤ n) (hm : 60 ≤ m) : ∃ v h2, f_X5_richestCoast n [130] h = some (v, h2) ∧ f_X12_richestCoast m [35] g = some (v, g) ∧ ∀ a j, ¬ (a = 141) → h2 a j = h a j := by
  obtain ⟨B6, t6, ⟨h0, h10⟩, h4, hq, h28, hb⟩ := id F
  have p15 : h 130 15 = 141 := H.1.2.1.2.2.2.2.1
  have fz : ∀ a j, ¬ (a = 141) → (zup (zup (zup h 141 0 0) 141 1 0) 141 2 0) a j = h a j := fun a j w => by rw [zup_ne (by omega), zup_ne (by omega), zup_ne (by omega)]
  have fv : ∀ c, c < 3 → (zup (zup (zup h 141 0 0) 141 1 0) 141 2 0) 141 c = csB (g 17) t c 0 := fun c hc => by
    show _ = (0 : Int)
    rcases (show c = 0 ∨ c = 1 ∨ c = 2 by omega) with rfl | rfl | rfl <;> simp [zup]
  obtain ⟨h2, n2, f1, f2, f3, f4⟩ := coC_l H hT F B 0 n _ (by omega) (by omega) fz fv
  have cb : ∀ c, 0 ≤ csB (g 17) t c B ∧ csB (g 17) t c B ≤ 730620 := fun c => by
    have := csB_b (f := g 17) (t := t) (c := c) (B := B) (fun i hi => (hb i hi).2) B (Nat.le_refl _)
    omega
  have b0 := cb 0
  have b1 := cb 1
  have b2 := cb 2
  refine ⟨bs2 (fun c => csB (g 17) t c B), h2, ?_, ?_, f3⟩
  · obtain ⟨n2, rfl⟩ : ∃ n', n2 = n' + 3 := ⟨n2 - 3, by omega⟩
    rw [e_X5_richestCoast, xg_pos p15, fill3_e (by omega), xb_some]
    refine f2.trans ?_
    have q15 : h2 130 15 = 141 := by rw [f3 _ _ (by omega)]; exact p15
    have v0 := f4 0 (by decide)
    have v1 := f4 1 (by decide)
    have v2 := f4 2 (by decide)
    rw [e_X5_richestCoast_54, if_pos (by decide), xg_pos q15, xg_pos (by decide), xg_pos q15, xg_pos (by decide), show (0 : Int).toNat = 0 from rfl, show (1 : Int).toNat = 1 from rfl, v0, v1]
    have tail : ∀ x : Nat, x < 2 → xl_X5_richestCoast (n2 + 2) 54 [130, (x : Int), 2] h2 = some (if csB (g 17) t x B < csB (g 17) t 2 B then 2 else (x : Int), h2) := fun x hx => by
      rw [e_X5_richestCoast_54, if_pos (by decide), xg_pos q15, xg_pos (by decide), xg_pos q15, xg_pos (by omega), Int.toNat_natCast x, show (2 : Int).toNat = 2 from rfl, f4 x (by omega), v2]
      by_cases c : csB (g 17) t x B < csB (g 17) t 2 B
      · rw [if_pos c, if_pos c, xg_pos (by decide), show (2 : Int) + 1 = 3 from rfl, e_X5_richestCoast_54, if_neg (by decide)]
      · rw [if_neg c, if_neg c, xg_pos (by decide), show (2 : Int) + 1 = 3 from rfl, e_X5_richestCoast_54, if_neg (by decide)]
    unfold bs2 bs1
    by_cases c : csB (g 17) t 0 B < csB (g 17) t 1 B
    · rw [if_pos c, if_pos c, xg_pos (by decide), show (1 : Int) + 1 = 2 from rfl]
      exact tail 1 (by decide)
    · rw [if_neg c, if_neg c, xg_pos (by decide), show (1 : Int) + 1 = 2 from rfl]
      exact tail 0 (by decide)
  · obtain ⟨m, rfl⟩ : ∃ m', m = ((((m' + 1 + B + 1) + 1) + B + 1) + 1 + B + 1) + 1 := ⟨m - 3 * B - 7, by omega⟩
    have r0 := coR_l (w := 0) (be := 0) (mo := -1) H F B 0 (((m + 1 + B + 1) + 1) + B + 1 + 1) (by omega)
    rw [show ((0 : Nat) : Int) = 0 from rfl, show csB (g 17) t 0 0 = 0 from rfl, if_pos (by omega), gr_e, xb_some, xg_pos (by decide), Int.max_eq_right (by omega), show (0 : Int) + 1 = 1 from rfl] at r0
    rw [e_X12_richestCoast, e_X12_richestCoast_6, if_pos (by decide)]
    refine r0.trans ?_
    have tail : ∀ x : Nat, x < 2 → xl_X12_richestCoast ((m + 1 + B + 1) + 1) 6 [35, (x : Int), csB (g 17) t x B, 2] g = some (if csB (g 17) t x B < csB (g 17) t 2 B then 2 else (x : Int), g) := fun x hx => by
      have r2 := coR_l (w := 2) (be := (x : Int)) (mo := csB (g 17) t x B) H F B 0 (m + 1) (by omega)
      rw [show ((2 : Nat) : Int) = 2 from rfl, show ((0 : Nat) : Int) = 0 from rfl, show csB (g 17) t 2 0 = 0 from rfl] at r2
      rw [e_X12_richestCoast_6, if_pos (by decide)]
      refine r2.trans ?_
      by_cases c : csB (g 17) t x B < csB (g 17) t 2 B
      · rw [if_pos c, if_pos c, gr_e, xb_some, xg_pos (by decide), show (2 : Int) + 1 = 3 from rfl, e_X12_richestCoast_6, if_neg (by decide)]
      · rw [if_neg c, if_neg c, gr_e, xb_some, xg_pos (by decide), show (2 : Int) + 1 = 3 from rfl, e_X12_richestCoast_6, if_neg (by decide)]
    have r1 := coR_l (w := 1) (be := 0) (mo := csB (g 17) t 0 B) H F B 0 ((m + 1 + B + 1) + 1) (by omega)
    rw [show ((1 : Nat) : Int) = 1 from rfl, show ((0 : Nat) : Int) = 0 from rfl, show csB (g 17) t 1 0 = 0 from rfl] at r1
    rw [e_X12_richestCoast_6, if_pos (by decide)]
    refine r1.trans ?_
    unfold bs2 bs1
    by_cases c : csB (g 17) t 0 B < csB (g 17) t 1 B
    · rw [if_pos c, if_pos c, gr_e, xb_some, xg_pos (by decide), show (1 : Int) + 1 = 2 from rfl, Int.max_eq_right (by omega)]
      exact tail 1 (by decide)
    · rw [if_neg c, if_neg c, gr_e, xb_some, xg_pos (by decide), show (1 : Int) + 1 = 2 from rfl, Int.max_eq_left (by omega)]
      exact tail 0 (by decide)
theorem RR_sum {m n : Nat} {x y w : Int} {h g : yH} (hn : 300 ≤ n) (hm : 300 ≤ m) (R : RR True h g) (hW : WH g) (hp : cPr h) (h13 : h 1 3 = 130) (hL : lnI h) (hl : h 4 1 ≤ 600) (hq : rQ g) (h4 : ∀ j, j < 12 → 0 ≤ g 4 j ∧ g 4 j ≤ 2) : ∃ v h2 g2, f_X11_sum n [1, x, y, w] h = some (v, h2) ∧ f_X12_sum m [35, x, y, w] g = some (v, g2) ∧ dyK h g h2 g2 := by
  obtain ⟨v, h2, g2, e1, e2, e13, kk, e3⟩ := stopD (x := x) (y := y) hn hm R hW hp h13 hL hl hq h4
  rcases e3 with ev | ⟨ev, e3⟩
  · refine ⟨-2, h2, g2, ?_, ?_, kk⟩
    · rw [e_X11_sum, e1, xb_some, if_pos ev]
    · rw [e_X12_sum, e2, xb_some, if_pos ev]
  obtain ⟨b, e, s, dd, t, d, S, q, c, k2, p, hT, D, -, hc, z, -, -⟩ := e3
  have F := D.btF hT hc
  have p0 := D.1.2.1
  by_cases c0 : w = 0
  · obtain ⟨r, a1, a2⟩ := luck2 (n := n) (m := m) F (by omega) (by omega)
    refine ⟨r, h2, g2, ?_, ?_, kk⟩
    · rw [e_X11_sum, e1, xb_some, if_neg (by omega), if_pos c0, xg_pos e13, a1, xb_some]
    · rw [e_X12_sum, e2, xb_some, if_neg (by omega), if_pos c0, a2, xb_some]
  by_cases c1 : w = 1
  · obtain ⟨r, a1, a2⟩ := fish2 (n := n) (m := m) D (by omega) (by omega)
    refine ⟨r, h2, g2, ?_, ?_, kk⟩
    · rw [e_X11_sum, e1, xb_some, if_neg (by omega), if_neg c0, if_pos c1, xg_pos e13, xg_pos p0.1, a1, xb_some]
    · rw [e_X12_sum, e2, xb_some, if_neg (by omega), if_neg c0, if_pos c1, a2, xb_some]
  by_cases c2 : w = 2
  · obtain ⟨r, h3, a1, a2, a3⟩ := coast2 (n := n) (m := m) D hT F (by omega) (by omega)
    refine ⟨r, h3, g2, ?_, ?_, kk.mix hL hl (p0.fr (fun a j w => a3 a j (by omega))) (fun a j w => (a3 a j (by omega)).trans (kk.2.2.1 a j w))⟩
    · rw [e_X11_sum, e1, xb_some, if_neg (by omega), if_neg c0, if_neg c1, if_pos c2, xg_pos e13, a1, xb_some]
    · rw [e_X12_sum, e2, xb_some, if_neg (by omega), if_neg c0, if_neg c1, if_pos c2, a2, xb_some]
  by_cases c3 : w = 3
  · have rc := rbC_l F (t 6).toNat 0 n (by omega) (by have := F.1; omega)
    have rr := rbR_l F (t 6).toNat 0 m (by omega) (by have := F.1; omega)
    rw [show ((0 : Nat) : Int) = 0 from rfl, show rbB (g2 17) 0 = -1 from rfl] at rc rr
    refine ⟨rbB (g2 17) (t 6).toNat, h2, g2, ?_, ?_, kk⟩
    · rw [e_X11_sum, e1, xb_some, if_neg (by omega), if_neg c0, if_neg c1, if_neg c2, if_pos c3, xg_pos e13, e_X5_richestBoat, rc, xb_some]
    · rw [e_X12_sum, e2, xb_some, if_neg (by omega), if_neg c0, if_neg c1, if_neg c2, if_pos c3, e_X12_richest, rr, xb_some]
  · refine ⟨-2, h2, g2, ?_, ?_, kk⟩
    · rw [e_X11_sum, e1, xb_some, if_neg (by omega), if_neg c0, if_neg c1, if_neg c2, if_neg c3]
    · rw [e_X12_sum, e2, xb_some, if_neg (by omega), if_neg c0, if_neg c1, if_neg c2, if_neg c3]
end
section
/-! gulls -/
def laB (f : Nat → Int) : Nat → Int
  | 0 => 0
  | k + 1 => laB f k + f k
theorem laB_b {f : Nat → Int} {B q : Nat} (hf : ∀ i, i < B → 0 ≤ f i ∧ f i ≤ (q : Int)) (hq : q ≤ 180) : ∀ k, k ≤ B → 0 ≤ laB f k ∧ laB f k ≤ 180 * (k : Int) := by
  intro k
  induction k with
  | zero => intro _; exact ⟨Int.le_refl _, show (0 : Int) ≤ 180 * ((0 : Nat) : Int) by decide⟩
  | succ k ih =>
    intro hk
    have i1 := ih (by omega)
    have h1 := hf k (by omega)
    show 0 ≤ laB f k + f k ∧ laB f k + f k ≤ 180 * ((k + 1 : Nat) : Int)
    omega
theorem lawC2_l {B b q : Nat} {f : Nat → Int} {h : yH} (hB : B ≤ 6) (h0 : h 130 0 = (b : Int)) (h10 : h b 10 = (B : Int)) (h5 : h 130 5 = 140) (hv : ∀ i, i < B → h 140 i = f i) (hf : ∀ i, i < B → 0 ≤ f i ∧ f i ≤ (q : Int)) (hq : q ≤ 180) : ∀ (mm k n : Nat), mm + k = B → mm < n → xl_X5_lawfulClaims n 4 [130, laB f k, (k : Int)] h = some (laB f B, h) := by
  intro mm
  induction mm with
  | zero =>
    intro k n e1 e2
    obtain ⟨n, rfl⟩ : ∃ n', n = n' + 1 := ⟨n - 1, by omega⟩
    rw [e_X5_lawfulClaims_4, h0, xg_pos (by omega), Int.toNat_natCast, h10, if_neg (by omega), show k = B by omega]
  | succ mm ih =>
    intro k n e1 e2
    obtain ⟨n, rfl⟩ : ∃ n', n = n' + 1 := ⟨n - 1, by omega⟩
    have bb := laB_b hf hq k (by omega)
    have h1 := hf k (by omega)
    rw [e_X5_lawfulClaims_4, h0, xg_pos (by omega), Int.toNat_natCast b, h10, if_pos (by omega), xg_pos h5, xg_pos (by omega), Int.toNat_natCast k, hv k (by omega), xg_pos (by omega), xg_pos (by omega), show (k : Int) + 1 = ((k + 1 : Nat) : Int) by omega]
    exact ih (k + 1) n (by omega) (by omega)
theorem lawR2_l {B q : Nat} {x1 x2 x3 x4 x5 : Int} {f : Nat → Int} {g : yH} (hB : B ≤ 6) (hq : rQ g) (h28 : g 35 28 = (B : Int)) (hv : ∀ i, i < B → g 18 i = f i) (hf : ∀ i, i < B → 0 ≤ f i ∧ f i ≤ (q : Int)) (hq1 : q ≤ 180) : ∀ (mm k n : Nat), mm + k = B → mm < n → xl_X12_gulls n 92 [35, x1, x2, x3, x4, x5, laB f k, (k : Int)] g = (if x5 = 0 then (some (laB f B, g)) else (if x5 = 1 then (some ((g 35 34), g)) else (xg (g 35 42 = 17) (xg (-2147483648 ≤ x5 - 10 ∧ x5 - 10 ≤ 2147483647) (xg (0 ≤ (x5 - 10) ∧ (x5 - 10) < 6) (some ((g 17 (x5 - 10).toNat), g))))))) := by
  intro mm
  induction mm with
  | zero =>
    intro k n e1 e2
    obtain ⟨n, rfl⟩ : ∃ n', n = n' + 1 := ⟨n - 1, by omega⟩
    rw [e_X12_gulls_92, h28, if_neg (by omega), show k = B by omega]
  | succ mm ih =>
    intro k n e1 e2
    obtain ⟨n, rfl⟩ : ∃ n', n = n' + 1 := ⟨n - 1, by omega⟩
    have bb := laB_b hf hq1 k (by omega)
    have h1 := hf k (by omega)
    rw [e_X12_gulls_92, h28, if_pos (by omega), xg_pos (hq.p (j := 43) (k := 18) (by decide)), xg_pos (by omega), Int.toNat_natCast k, hv k (by omega), xg_pos (by omega), xg_pos (by omega), show (k : Int) + 1 = ((k + 1 : Nat) : Int) by omega]
    exact ih (k + 1) n (by omega) (by omega)
theorem RR_gulls {m n : Nat} {x y sd k w : Int} {h g : yH} (hn : 300 ≤ n) (hm : 300 ≤ m) (hw : -2147483648 ≤ w ∧ w ≤ 2147483647) (R : RR True h g) (hW : WH g) (hp : cPr h) (h13 : h 1 3 = 130) (hL : lnI h) (hl : h 4 1 ≤ 600) (hq : rQ g) (h4 : ∀ j, j < 12 → 0 ≤ g 4 j ∧ g 4 j ≤ 2) : ∃ v h2 g2, f_X11_gulls n [1, x, y, sd, k, w] h = some (v, h2) ∧ f_X12_gulls m [35, x, y, sd, k, w] g = some (v, g2) ∧ dyK h g h2 g2 := by
  have R1 := R.c0 hL hl
  have hq1 := c0_q hq
  have h41 := c0_4 h4
  have hW1 := hW.c0
  have hP := R.1
  have n0 := R1.n6 (j := 0) (by decide)
  have n1 := R1.n6 (j := 1) (by decide)
  have b0 := h41 0 (by decide)
  have b1 := h41 1 (by decide)
  have p3 : h 1 0 = 3 := hP.p (by decide)
  obtain ⟨F1, F2⟩ := findBoth (n := n) (x := x) (y := y) hP (by omega) (by omega)
  have none0 : (¬ (0 ≤ k ∧ k ≤ 10) ∨ ¬ (0 ≤ x ∧ x < h 6 0) ∨ ¬ (0 ≤ y ∧ y < h 6 1)) → f_X11_gulls n [1, x, y, sd, k, w] h = some (-1, h) := fun c => by
    rw [e_X11_gulls, xg_pos p3, F1, xb_some, xg_pos p3, F2, xb_some]
    by_cases c1 : 0 ≤ x ∧ x < h 6 0
    · by_cases c2 : 0 ≤ y ∧ y < h 6 1
      · rw [if_pos c1, if_pos c2, if_neg (by omega), if_neg (by omega)]
        by_cases c3 : k < 0
        · rw [if_pos c3]
        · rw [if_neg c3, if_pos (by omega)]
      · rw [if_pos c1, if_neg c2, if_neg (by omega), if_pos (by decide)]
    · rw [if_neg c1, if_pos (by decide)]
  by_cases ck : 0 ≤ k ∧ k ≤ 10
  rotate_left
  · refine ⟨-1, h, zup g 35 0 0, none0 (Or.inl ck), ?_, dyK.c0 R hL hl hp⟩
    rw [e_X12_gulls, in_f ck, xb_some, if_pos rfl]
  by_cases cy : 0 ≤ y ∧ y < (zup g 35 0 0) 4 1
  rotate_left
  · refine ⟨-1, h, zup (zup g 35 0 0) 35 33 y, none0 (Or.inr (Or.inr (by omega))), ?_, dyK.n R hL hl hq hp⟩
    rw [e_X12_gulls, in_t ck, xb_some, if_neg (by decide), hasDay_e hq1.P h41, xb_some, if_neg cy, if_pos rfl]
  have n4 : ∀ j, (zup (zup g 35 0 0) 35 33 y) 4 j = (zup g 35 0 0) 4 j := fun j => zup_ne (by omega)
  have q1 : rQ (zup (zup g 35 0 0) 35 33 y) := hq1.up (Or.inr (by decide))
  by_cases cx : 0 ≤ x ∧ x < (zup g 35 0 0) 4 0
  rotate_left
  · refine ⟨-1, h, zup (zup g 35 0 0) 35 33 y, none0 (Or.inr (Or.inl (by omega))), ?_, dyK.n R hL hl hq hp⟩
    rw [e_X12_gulls, in_t ck, xb_some, if_neg (by decide), hasDay_e hq1.P h41, xb_some, if_pos cy, if_neg (by decide), hand_n q1 (fun j hj => by rw [n4]; exact h41 j hj) (by rw [n4]; exact cx), xb_some, if_pos rfl]
  obtain ⟨s, rfl⟩ : ∃ s : Nat, x = (s : Int) := ⟨x.toNat, by omega⟩
  obtain ⟨dd, rfl⟩ : ∃ dd : Nat, y = (dd : Int) := ⟨y.toNat, by omega⟩
  obtain ⟨t, d, hT, C, ht, hD⟩ := dayIn (s := s) (dd := dd) R1 hW1 hp (by omega) cx.2 (by omega) cy.2
  obtain ⟨v, g2, e1, rv, H⟩ := hand_e (n := m) (s := s) (t := t) (by omega) q1 (fun j hj => by rw [n4]; exact h41 j hj) (by rw [n4]; exact cx.2) (fun j hj => by rw [zup_ne (by omega)]; exact ht j hj) hT.1
  subst rv
  obtain ⟨H1, ⟨H2, H3, H4, H5, H6, H7⟩, H8, H9⟩ := H
  have d30 := hT.2.2.1
  have w6 := hT.1.wd.2.2.2.2
  have frg : frZ (zup g 35 0 0) g2 := fun a j q => by rw [H9 a j (by omega) (by omega) (by omega), zup_ne (by omega)]
  have C0 : ∀ r : yO, (if w < 10 then (if w = 0 then (xq_X11_gulls_89 n [1, (s : Int), (dd : Int), sd, k, w, ((20 + 10 * s : Nat) : Int), ((40 + 10 * dd : Nat) : Int), 0] h) else (if w = 1 then (xq_X11_gulls_89 n [1, (s : Int), (dd : Int), sd, k, w, ((20 + 10 * s : Nat) : Int), ((40 + 10 * dd : Nat) : Int), 0] h) else (some ((-1), h)))) else (if 0 ≤ w - 10 ∧ w - 10 < t 6 then (xq_X11_gulls_89 n [1, (s : Int), (dd : Int), sd, k, w, ((20 + 10 * s : Nat) : Int), ((40 + 10 * dd : Nat) : Int), 1] h) else (some ((-1), h)))) = r → f_X11_gulls n [1, (s : Int), (dd : Int), sd, k, w] h = r := by
    intro r er
    rw [e_X11_gulls, xg_pos p3, F1, xb_some, xg_pos p3, F2, xb_some, if_pos (show 0 ≤ (s : Int) ∧ (s : Int) < h 6 0 by omega), if_pos (show 0 ≤ (dd : Int) ∧ (dd : Int) < h 6 1 by omega), show 20 + 10 * (s : Int) = ((20 + 10 * s : Nat) : Int) by omega, show 40 + 10 * (dd : Int) = ((40 + 10 * dd : Nat) : Int) by omega, if_neg (by omega), if_neg (by omega), if_neg (by omega), if_neg (by omega)]
    by_cases c10 : w < 10
    · rw [if_pos c10]
      rw [if_pos c10] at er
      by_cases z0 : w = 0
      · rw [if_pos z0] at er ⊢
        exact er
      · rw [if_neg z0] at er ⊢
        by_cases z1 : w = 1
        · rw [if_pos z1] at er ⊢
          exact er
        · rw [if_neg z1] at er ⊢
          rw [if_pos rfl]
          exact er
    · rw [if_neg c10, xg_pos (by omega), xg_pos (by omega), hasBoat_e C.2.2.1, xb_some]
      rw [if_neg c10] at er
      by_cases cb : 0 ≤ w - 10 ∧ w - 10 < t 6
      · rw [if_pos cb, if_neg (by decide), if_neg (by omega), if_neg (by omega), if_neg (by decide)]
        rw [if_pos cb] at er
        exact er
      · rw [if_neg cb, if_pos rfl, if_neg (by omega), if_neg (by omega), if_pos rfl]
        rw [if_neg cb] at er
        exact er
  have R0 : ∀ r : yO, (if 0 ≤ w ∧ w ≤ 1 ∨ 10 ≤ w ∧ w ≤ 9 + t 6 then (xq_X12_gulls_61 m (xl_X12_gulls m) [35, (s : Int), (dd : Int), sd, k, w] g2) else (some ((-1), g2))) = r → f_X12_gulls m [35, (s : Int), (dd : Int), sd, k, w] g = r := by
    intro r er
    rw [e_X12_gulls, in_t ck, xb_some, if_neg (by decide), hasDay_e hq1.P h41, xb_some, if_pos cy, if_neg (by decide), e1, xb_some, if_neg (by decide)]
    by_cases c1 : 0 ≤ w ∧ w ≤ 1
    · rw [if_pos (Or.inl c1)] at er
      rw [in_t c1, xb_some, if_neg (by decide)]
      exact er
    · rw [in_f c1, xb_some, if_pos rfl, H7, xg_pos (by omega)]
      by_cases c2 : 10 ≤ w ∧ w ≤ 9 + t 6
      · rw [if_pos (Or.inr c2)] at er
        rw [in_t c2, xb_some, if_neg (by decide)]
        exact er
      · rw [if_neg (by omega)] at er
        rw [in_f c2, xb_some, if_pos rfl]
        exact er
  by_cases cw : 0 ≤ w ∧ w ≤ 1 ∨ 10 ≤ w ∧ w ≤ 9 + t 6
  rotate_left
  · refine ⟨-1, h, g2, C0 _ ?_, R0 _ ?_, ⟨R1.z hL hl frC.r frg H1.2.2.2, hp, frC.r, fun a j w1 w2 => (frg a j (by omega)).trans (zup_ne (by omega))⟩⟩
    · by_cases c10 : w < 10
      · rw [if_pos c10, if_neg (by omega), if_neg (by omega)]
      · rw [if_neg c10, if_neg (by omega)]
    · rw [if_neg cw]
  have sHB : sH s t (zup (zup g2 35 51 sd) 35 50 k) := H1.nf (fun a j q => by
    unfold nqj at q
    rw [zup_ne (by omega), zup_ne (by omega)])
  have kB : ∀ j, j ≠ 50 → j ≠ 51 → (zup (zup g2 35 51 sd) 35 50 k) 35 j = g2 35 j := fun j q1 q2 => by rw [zup_ne (by omega), zup_ne (by omega)]
  have kA : ∀ a j, a ≠ 35 → (zup (zup g2 35 51 sd) 35 50 k) a j = g2 a j := fun a j q => by rw [zup_ne (by omega), zup_ne (by omega)]
  have k33 : g2 35 33 = (dd : Int) := by rw [H9 _ _ (by omega) (by omega) (by omega), zup_at]
  have k6 : ∀ j, j < 121 → g2 6 (121 * dd + j) = d j := fun j hj => by
    rw [H9 _ _ (by omega) (by omega) (by omega), zup_ne (by omega)]
    exact hD j hj
  have BC : bCr s dd t d k sd (zup (zup g2 35 51 sd) 35 50 k) := ⟨⟨sHB, by rw [kB _ (by omega) (by omega)]; exact H2, by rw [kB _ (by omega) (by omega)]; exact H3, by rw [kB _ (by omega) (by omega)]; exact H4, by rw [kB _ (by omega) (by omega)]; exact H5, by rw [kB _ (by omega) (by omega)]; exact H7, fun i hi => by rw [kA _ _ (by omega)]; exact (H8 i hi).2⟩, by rw [kB _ (by omega) (by omega)]; exact H6, ⟨by omega, by rw [kB _ (by omega) (by omega)]; exact k33⟩, fun j hj => by rw [kA _ _ (by omega)]; exact k6 j hj, ck, Or.inl (zup_at _ _ _ _), fun _ => by rw [zup_ne (by omega), zup_at]⟩
  obtain ⟨h0, g0, f1, f2, D0, z34, z50, fc, fk⟩ := begin2 (n := n) (m := m) (by omega) (by omega) hT C BC
  obtain ⟨k2, hE, gE, sm⟩ := sim2 (x1 := 30) hT (d 0).toNat 0 (d 0).toNat n m _ 0 0 _ h0 g0 (by omega) (by omega) (by omega) (by omega) (by omega) (by omega) D0 z34
  have go := sm.go (by omega) (by omega)
  rw [show (((d 0).toNat : Nat) : Int) = d 0 by omega] at go
  obtain ⟨⟨y1, y2⟩, ⟨S2, p2, y3⟩, ⟨y4, y5⟩, y6, y7, -⟩ := sm
  have k0 : h0 130 1 = ((40 + 10 * dd : Nat) : Int) := D0.1.2.2.2.1
  have kd : h0 (40 + 10 * dd) 0 = d 0 := D0.1.2.2.2.2.2.2.1.1
  have eE := y3.2.1.1.1.2.2.2
  have p0 := y3.1.2.1
  have hE13 : hE 1 3 = 130 := by rw [y6 _ _ (by omega), fc _ _ (by omega)]; exact h13
  have fZ : frZ (zup g 35 0 0) (zup gE 35 50 (-1)) := fun a j q => by
    rw [zup_ne (by omega), y7.z a j q, fk.z a j q, kA _ _ (by omega)]
    exact frg a j q
  have K : dyK h g hE (zup gE 35 50 (-1)) := ⟨R1.z hL hl (fc.t y6) fZ (eE.up (Or.inr (by decide))), p0, fc.t y6, fun a j w1 w2 => (fZ a j (by omega)).trans (zup_ne (by omega))⟩
  have hBt : ∀ i, i < (t 6).toNat → hE 140 i = gE 18 i := fun i hi => (y3.2.2.2.2.2 i (by omega)).2.2.1
  have hf : ∀ i, i < (t 6).toNat → 0 ≤ gE 18 i ∧ gE 18 i ≤ ((0 + 6 * ((d 0).toNat - 0) : Nat) : Int) := fun i hi => (y3.2.2.2.2.2 i (by omega)).2.2.2
  have lc := lawC2_l (B := (t 6).toNat) (b := 20 + 10 * s) (f := gE 18) (h := hE) (by omega) y3.1.2.2.1 (by rw [y3.1.2.2.2.2.1.2.2.2.2.2.2.1]; omega) p0.2.2.2.1 hBt hf (by omega) (t 6).toNat 0 n (by omega) (by omega)
  have lr := lawR2_l (B := (t 6).toNat) (x1 := (s : Int)) (x2 := (dd : Int)) (x3 := sd) (x4 := k) (x5 := w) (f := gE 18) (g := zup gE 35 50 (-1)) (by omega) (eE.up (Or.inr (by decide))) (by rw [zup_ne (by omega), y3.2.1.1.2.2.2.2.2.2.1, bU_n (j := 6) (by omega)]; omega) (fun i _ => zup_ne (by omega)) hf (by omega) (t 6).toNat 0 m (by omega) (by omega)
  rw [show ((0 : Nat) : Int) = 0 from rfl, show laB (gE 18) 0 = 0 from rfl] at lc lr
  have eC : ∀ fl : Int, xq_X11_gulls_89 n [1, (s : Int), (dd : Int), sd, k, w, ((20 + 10 * s : Nat) : Int), ((40 + 10 * dd : Nat) : Int), fl] h = (if fl = 0 then (if w = 0 then (xg (hE 1 3 = 130) (xb (f_X5_lawfulClaims n [130] hE) (fun v3 h3 => some (v3, h3)))) else (xg (hE 1 3 = 130) (some ((hE 130 6), hE)))) else (xg (hE 1 3 = 130) (xg (hE 130 4 = 139) (xg (-2147483648 ≤ w - 10 ∧ w - 10 ≤ 2147483647) (xg (0 ≤ (w - 10) ∧ (w - 10) < 6) (some ((hE 139 (w - 10).toNat), hE))))))) := by
    intro fl
    rw [e_X11_gulls_89, xg_pos h13, xg_pos (by omega), xg_pos (by omega), f1, xb_some, xg_pos (by rw [fc _ _ (by omega)]; exact h13), e_X5_go, k0, xg_pos (by omega), Int.toNat_natCast, kd, show min 30 (d 0) = d 0 by omega, go.1, xb_some]
  have eR : xq_X12_gulls_61 m (xl_X12_gulls m) [35, (s : Int), (dd : Int), sd, k, w] g2 = xl_X12_gulls m 92 [35, (s : Int), (dd : Int), sd, k, w, 0, 0] (zup gE 35 50 (-1)) := by
    rw [e_X12_gulls_61, e_X12_deeds, xg_pos (sHB.2.2.2.p (j := 7) (k := 6) (by decide)), kB 33 (by omega) (by omega), k33, xg_pos (by omega), xg_pos (by omega), show (121 * (dd : Int)).toNat = 121 * dd + 0 by omega, kA _ _ (by omega), k6 0 (by decide), xb_some, e_X12_play, f2, xb_some, go.2, xb_some]
  rw [if_pos cw, eR, lr] at R0
  by_cases c0 : w = 0
  · refine ⟨laB (gE 18) (t 6).toNat, hE, zup gE 35 50 (-1), C0 _ ?_, R0 _ ?_, K⟩
    · rw [if_pos (by omega), if_pos c0, eC, if_pos rfl, if_pos c0, xg_pos hE13, e_X5_lawfulClaims, lc, xb_some]
    · rw [if_pos c0]
  by_cases c1 : w = 1
  · refine ⟨gE 35 34, hE, zup gE 35 50 (-1), C0 _ ?_, R0 _ ?_, K⟩
    · rw [if_pos (by omega), if_neg c0, if_pos c1, eC, if_pos rfl, if_neg c0, xg_pos hE13, y3.2.2.1.1]
    · rw [if_neg c0, if_pos c1, zup_ne (by omega)]
  · obtain ⟨i, ei⟩ : ∃ i : Nat, w - 10 = (i : Int) := ⟨(w - 10).toNat, by omega⟩
    refine ⟨gE 17 i, hE, zup gE 35 50 (-1), C0 _ ?_, R0 _ ?_, K⟩
    · rw [if_neg (by omega), if_pos (by omega), eC, if_neg (by decide), xg_pos hE13, xg_pos p0.2.2.1, xg_pos (by omega), xg_pos (by omega), ei, Int.toNat_natCast, (y3.2.2.2.2.2 i (by omega)).2.1.1]
    · rw [if_neg c0, if_neg c1, xg_pos (by rw [zup_ne (by omega)]; exact eE.p (j := 42) (k := 17) (by decide)), xg_pos (by omega), xg_pos (by omega), ei, Int.toNat_natCast, zup_ne (by omega)]
end
section
/-! winds, with what it leaves -/
theorem RR_winds2 {m n : Nat} {x w : Int} {h g : yH} (hn : 60 ≤ n) (hm2 : 160 ≤ m) (R : RR True h g) (hw : cPw h) (hL : lnI h) (hm : h 4 1 ≤ 600) (hq : rQ g) (h4 : ∀ j, j < 12 → 0 ≤ g 4 j ∧ g 4 j ≤ 2) : ∃ v h2 g2, f_X11_winds n [1, x, w] h = some (v, h2) ∧ f_X12_winds m [35, x, w] g = some (v, g2) ∧ (RR True h2 g2 ∧ cPw h2) ∧ ∀ a j, a < 150 ∨ 168 ≤ a → h2 a j = h a j := by
  have hP := R.1
  have n0 := R.n6 (j := 0) (by decide)
  have b0 := h4 0 (by decide)
  by_cases c2 : 0 ≤ w ∧ w ≤ 2
  · by_cases c : 0 ≤ x ∧ x < h 6 0
    · obtain ⟨s, rfl⟩ : ∃ s : Nat, x = (s : Int) := ⟨x.toNat, by omega⟩
      obtain ⟨t, a1, a2, a3, a4⟩ := R.sea (s := s) (by omega) (by omega)
      obtain ⟨v, h2, e1, r1, r2, r3⟩ := wndC_e (w := w) hn hP hw (by omega) c.2 a1 a2 a4 c2
      obtain ⟨v5, g5, e5, rv, H⟩ := hand_e (n := m) (s := s) (t := t) (by omega) (c0_q hq) (c0_4 h4) (by rw [zup_ne (by omega)]; omega) (fun j hj => by rw [zup_ne (by omega)]; exact a3 j hj) a4
      subst rv
      obtain ⟨v6, g6, e6, rv6, f6⟩ := wndR_l (x1 := (s : Int)) (w := w) (n := m) a4 (g := g5) ⟨H.1, H.2.1.1, H.2.1.2.1, H.2.1.2.2.2.2.2, H.2.2.1⟩ (by omega)
      have R5 : RR True h g5 := (R.c0 hL hm).hd hL hm H
      have q5 : rQ g5 := H.1.2.2.2
      have q6 : rQ g6 := q5.fr (fun j hj => f6 _ _ (fun c => by
        have : ∀ j ∈ rQs, ¬ (j = 26 ∨ j = 27) := by decide
        exact this j hj c.2))
      have R6 : RR True h g6 := R5.gf hL hm q6.P (fun a j w => f6 a j (by omega))
      refine ⟨v, h2, g6, e1, ?_, ⟨R6.hf hL hm (fun a j w => r3 a j (by omega) (by omega)), r2⟩, fun a j w => r3 a j (by omega) (by omega)⟩
      rw [e_X12_winds, in_t c2, xb_some, if_neg (by decide), e5, xb_some, if_neg (by decide), e6, rv6, r1]
    · refine ⟨-1, h, zup g 35 0 0, ?_, ?_, ⟨R.c0 hL hm, hw⟩, fun _ _ _ => rfl⟩
      · rw [e_X11_winds, xg_pos (hP.p (by decide)), findSea_e hP (by omega), xb_some, if_neg c, if_pos (by decide)]
      · rw [e_X12_winds, in_t c2, xb_some, if_neg (by decide), hand_n (c0_q hq) (c0_4 h4) (by rw [zup_ne (by omega)]; omega), xb_some, if_pos rfl]
  · refine ⟨-1, h, zup g 35 0 0, ?_, ?_, ⟨R.c0 hL hm, hw⟩, fun _ _ _ => rfl⟩
    · rw [e_X11_winds, xg_pos (hP.p (by decide)), findSea_e hP (by omega), xb_some]
      by_cases c : 0 ≤ x ∧ x < h 6 0
      · rw [if_pos c, if_neg (by omega)]
        by_cases c3 : w < 0
        · rw [if_pos c3]
        · rw [if_neg c3, if_pos (by omega)]
      · rw [if_neg c, if_pos (by decide)]
    · rw [e_X12_winds, in_f c2, xb_some, if_pos rfl]
end
