/-! what is told is asked for: deed, sea, shoal, boat -/
theorem RR.gf {F : Prop} {h g g2 : yH} (R : RR F h g) (hL : lnI h) (hm : h 4 1 ≤ 600) (gP : rP g2) (e : ∀ a j, a ≤ 7 ∨ a = 34 → g2 a j = g a j) : RR F h g2 := by
  obtain ⟨hP, -, R0, RI0⟩ := R
  exact ⟨hP, gP, R0.fr (fun _ _ _ _ => rfl) (fun j _ _ => e 0 j (by omega)) ⟨e 1 _ (by omega), e 2 _ (by omega), e 3 _ (by omega)⟩ (fun j _ _ => e 4 j (by omega)) (fun j _ _ => e 5 j (by omega)) (fun j _ _ => e 6 j (by omega)) (fun j _ _ => e 7 j (by omega)) hm, RI0.fr hL (fun _ _ _ => rfl) (fun _ => rfl) (fun j => e 34 j (by omega)) (fun j _ => e 0 j (by omega)) (fun a j w _ => e a j (by omega)) (fun j _ => e 4 j (by omega)) (fun j _ => e 5 j (by omega)) (fun j _ => e 6 j (by omega)) (fun j _ => e 7 j (by omega))⟩
theorem RR.n6 {F : Prop} {h g : yH} (R : RR F h g) {j : Nat} (hj : j < 3) : h 6 j = g 4 j := by
  have := R.2.2.1.2.2.1 j hj
  rw [show 0 + 6 = 6 from rfl, show 3 * 0 + j = j by omega] at this
  exact this
theorem findSea_e {n : Nat} {x : Int} {h : yH} (hP : cP h) (hb : h 6 0 ≤ 2) : f_X9_findSea n [3, x] h = some (if 0 ≤ x ∧ x < h 6 0 then 20 + 10 * x else -1, h) := by
  rw [e_X9_findSea]
  by_cases w : x < 0
  · rw [if_pos w, if_neg (show ¬ (0 ≤ x ∧ x < h 6 0) by omega)]
  · rw [if_neg w, xg_pos (hP.p (by decide))]
    by_cases w2 : x < h 6 0
    · have e7 : h 7 x.toNat = 7 + 13 + 10 * x := by
        rcases (show x = 0 ∨ x = 1 by omega) with rfl | rfl
        · exact hP.p (a := 7) (j := 0) (v := 20) (by decide)
        · exact hP.p (a := 7) (j := 1) (v := 30) (by decide)
      rw [if_pos w2, xg_pos (hP.p (by decide)), xg_pos (by omega), xg_pos e7, if_pos (show 0 ≤ x ∧ x < h 6 0 by omega), show (7 : Int) + 13 + 10 * x = 20 + 10 * x by omega]
    · rw [if_neg w2, if_neg (show ¬ (0 ≤ x ∧ x < h 6 0) by omega)]
theorem findDay_e {n : Nat} {x : Int} {h : yH} (hP : cP h) (hb : h 6 1 ≤ 2) : f_X9_findDay n [3, x] h = some (if 0 ≤ x ∧ x < h 6 1 then 40 + 10 * x else -1, h) := by
  rw [e_X9_findDay]
  by_cases w : x < 0
  · rw [if_pos w, if_neg (show ¬ (0 ≤ x ∧ x < h 6 1) by omega)]
  · rw [if_neg w, xg_pos (hP.p (by decide))]
    by_cases w2 : x < h 6 1
    · have e7 : h 8 x.toNat = 8 + 32 + 10 * x := by
        rcases (show x = 0 ∨ x = 1 by omega) with rfl | rfl
        · exact hP.p (a := 8) (j := 0) (v := 40) (by decide)
        · exact hP.p (a := 8) (j := 1) (v := 50) (by decide)
      rw [if_pos w2, xg_pos (hP.p (by decide)), xg_pos (by omega), xg_pos e7, if_pos (show 0 ≤ x ∧ x < h 6 1 by omega), show (8 : Int) + 32 + 10 * x = 40 + 10 * x by omega]
    · rw [if_neg w2, if_neg (show ¬ (0 ≤ x ∧ x < h 6 1) by omega)]
/-! deed -/
theorem hasDay_e {n : Nat} {x : Int} {g : yH} (gP : rP g) (h4 : ∀ j, j < 12 → 0 ≤ g 4 j ∧ g 4 j ≤ 2) : f_X12_hasDay n [35, x] g = some (if 0 ≤ x ∧ x < g 4 1 then 1 else 0, zup g 35 33 x) := by
  rw [e_X12_hasDay, is_e (by rw [zup_ne (by omega)]; exact gP.2.2.2.2.1) (by omega) (by rw [zup_ne (by omega)]; exact h4 1 (by omega)), xb_some, zup_ne (show ¬ (4 = 35 ∧ (1 : Int).toNat = 33) by omega)]
  by_cases w : 0 ≤ x ∧ x < g 4 1
  · rw [show g 4 (1 : Int).toNat = g 4 1 from rfl, if_pos w, xg_pos (by decide)]
  · rw [show g 4 (1 : Int).toNat = g 4 1 from rfl, if_neg w, xg_pos (by decide)]
/-- what deed answers, of a day's numbers -/
def ddV (t : Nat → Int) (k w : Int) : Int := if k = -1 then (if w = 0 then t 0 else -2) else if 0 ≤ k ∧ k < t 0 ∧ 0 ≤ w ∧ w ≤ 3 then t (1 + 4 * k.toNat + w.toNat) else -2
theorem deedC_e {n d : Nat} {k w : Int} {t : Nat → Int} {h : yH} (hP : cP h) (hb : h 6 1 ≤ 2) (hd : d < 2) (hdm : (d : Int) < h 6 1) (hD : cD (40 + 10 * d) t h) (h0 : 0 ≤ t 0 ∧ t 0 ≤ 30) : f_X11_deed n [1, (d : Int), k, w] h = some (ddV t k w, h) := by
  have pb := hP.b
  rw [e_X11_deed, xg_pos (hP.p (by decide)), findDay_e hP hb, xb_some, if_pos (show 0 ≤ (d : Int) ∧ (d : Int) < h 6 1 by omega), if_neg (by omega)]
  have p1 : h (40 + 10 * d) 1 = ((40 + 10 * d : Nat) : Int) + 1 := by
    rcases (show d = 0 ∨ d = 1 by omega) with rfl | rfl
    · exact hP.p (a := 40) (j := 1) (v := 41) (by decide)
    · exact hP.p (a := 50) (j := 1) (v := 51) (by decide)
  have p2 : h (40 + 10 * d) 2 = ((40 + 10 * d : Nat) : Int) + 2 := by
    rcases (show d = 0 ∨ d = 1 by omega) with rfl | rfl
    · exact hP.p (a := 40) (j := 2) (v := 42) (by decide)
    · exact hP.p (a := 50) (j := 2) (v := 52) (by decide)
  have ev : (40 + 10 * (d : Int)).toNat = 40 + 10 * d := by omega
  have ec : (40 + 10 * (d : Int)) = ((40 + 10 * d : Nat) : Int) := by omega
  have e1 : (40 + 10 * (d : Int) + 1).toNat = 40 + 10 * d + 1 := by omega
  have e2 : (40 + 10 * (d : Int) + 2).toNat = 40 + 10 * d + 2 := by omega
  rw [ev, e1]
  unfold ddV
  by_cases c1 : k = -1
  · rw [if_pos c1, if_pos c1]
    by_cases c2 : w = 0
    · rw [if_pos c2, if_pos c2, xg_pos (by omega), hD.1]
    · rw [if_neg c2, if_neg c2]
  · rw [if_neg c1, if_neg c1]
    by_cases c3 : k < 0
    · rw [if_pos c3, if_neg (by omega)]
    · rw [if_neg c3, xg_pos (by omega), hD.1]
      by_cases c4 : k < t 0
      · rw [if_pos c4]
        by_cases c5 : w < 0
        · rw [if_pos c5, if_neg (by omega)]
        · rw [if_neg c5]
          by_cases c6 : 3 < w
          · rw [if_pos c6, if_neg (by omega)]
          · rw [if_neg c6, if_pos (show 0 ≤ k ∧ k < t 0 ∧ 0 ≤ w ∧ w ≤ 3 by omega)]
            obtain ⟨q1, q2, q3, q4⟩ := hD.2 k.toNat (by omega)
            by_cases c7 : w = 0
            · rw [if_pos c7, xg_pos (by omega), xg_pos (by rw [p1]; omega), xg_pos (by omega), q1, c7]
              rfl
            · rw [if_neg c7, xg_pos (by omega), xg_pos (by omega), e_X1_numberOf, ev, e2, xg_pos (by rw [p2]; omega), xg_pos (by omega), xg_pos (by omega), xg_pos (by omega), xb_some]
              rcases (show w = 1 ∨ w = 2 ∨ w = 3 by omega) with rfl | rfl | rfl
              · rw [show (3 * k + (1 - 1)).toNat = 3 * k.toNat by omega, q2, show 1 + 4 * k.toNat + (1 : Int).toNat = 2 + 4 * k.toNat by omega]
              · rw [show (3 * k + (2 - 1)).toNat = 3 * k.toNat + 1 by omega, q3, show 1 + 4 * k.toNat + (2 : Int).toNat = 3 + 4 * k.toNat by omega]
              · rw [show (3 * k + (3 - 1)).toNat = 3 * k.toNat + 2 by omega, q4, show 1 + 4 * k.toNat + (3 : Int).toNat = 4 + 4 * k.toNat by omega]
      · rw [if_neg c4, if_neg (by omega)]
theorem deedR_e {n d : Nat} {k w : Int} {t : Nat → Int} {g : yH} (gP : rP g) (h4 : ∀ j, j < 12 → 0 ≤ g 4 j ∧ g 4 j ≤ 2) (hd : d < 2) (hdm : (d : Int) < g 4 1) (hT : ∀ j, j < 121 → g 6 (121 * d + j) = t j) (h0 : 0 ≤ t 0 ∧ t 0 ≤ 30) : f_X12_deed n [35, (d : Int), k, w] g = some (ddV t k w, zup (zup g 35 0 0) 35 33 (d : Int)) := by
  have gP1 : rP (zup g 35 0 0) := gP.fr (fun j hj => by rw [zup_ne (by omega)])
  rw [e_X12_deed, hasDay_e gP1 (fun j hj => by rw [zup_ne (by omega)]; exact h4 j hj), xb_some, zup_ne (show ¬ (4 = 35 ∧ 1 = 0) by omega), if_pos (show 0 ≤ (d : Int) ∧ (d : Int) < g 4 1 by omega), if_neg (by decide)]
  have p7 : (zup (zup g 35 0 0) 35 33 (d : Int)) 35 7 = 6 := by rw [zup_ne (by omega), zup_ne (by omega)]; exact gP.2.2.2.2.2.2.1
  have p33 : (zup (zup g 35 0 0) 35 33 (d : Int)) 35 33 = (d : Int) := zup_at _ _ _ _
  have hT2 : ∀ j, j < 121 → (zup (zup g 35 0 0) 35 33 (d : Int)) 6 (121 * d + j) = t j := fun j hj => by rw [zup_ne (by omega), zup_ne (by omega)]; exact hT j hj
  generalize zup (zup g 35 0 0) 35 33 (d : Int) = g1 at *
  have eD : f_X12_deeds n [35] g1 = some (t 0, g1) := by
    rw [e_X12_deeds, xg_pos p7, p33, xg_pos (by omega), xg_pos (by omega), show (121 * (d : Int)).toNat = 121 * d + 0 by omega, hT2 0 (by omega)]
  unfold ddV
  by_cases c1 : k = -1
  · rw [if_pos c1, if_pos c1]
    by_cases c2 : w = 0
    · rw [if_pos c2, if_pos c2, eD, xb_some]
    · rw [if_neg c2, if_neg c2]
  · rw [if_neg c1, if_neg c1, eD, xb_some, xg_pos (by omega)]
    by_cases c3 : 0 ≤ k ∧ k ≤ t 0 - 1
    · rw [in_t c3, xb_some, if_neg (by decide)]
      by_cases c4 : 0 ≤ w ∧ w ≤ 3
      · rw [in_t c4, xb_some, if_neg (by decide), if_pos (by omega), e_X12_deedOf, xg_pos p7, p33, xg_pos (by omega), xg_pos (by omega), xg_pos (by omega), xg_pos (by omega), xg_pos (by omega), xg_pos (by omega), xb_some, show (121 * (d : Int) + 1 + 4 * k + w).toNat = 121 * d + (1 + 4 * k.toNat + w.toNat) by omega, hT2 _ (by omega)]
      · rw [in_f c4, xb_some, if_pos rfl, if_neg (by omega)]
    · rw [in_f c3, xb_some, if_pos rfl, if_neg (by omega)]
theorem RR_deed {F : Prop} {m n : Nat} {x k w : Int} {h g : yH} (R : RR F h g) (hL : lnI h) (hm : h 4 1 ≤ 600) (h4 : ∀ j, j < 12 → 0 ≤ g 4 j ∧ g 4 j ≤ 2) : ∃ v h2 g2, f_X11_deed n [1, x, k, w] h = some (v, h2) ∧ f_X12_deed m [35, x, k, w] g = some (v, g2) ∧ RR F h2 g2 ∧ ∀ a j, h2 a j = h a j := by
  have hP := R.1
  have gP := R.2.1
  have n1 := R.n6 (j := 1) (by decide)
  have b1 := h4 1 (by decide)
  by_cases c : 0 ≤ x ∧ x < h 6 1
  · obtain ⟨d, rfl⟩ : ∃ d : Nat, x = (d : Int) := ⟨x.toNat, by omega⟩
    obtain ⟨t, a1, a2, a3⟩ := R.2.2.1.2.2.2.2.2.2.1 d (by omega)
    have tw := a3 (by rw [← show g 4 1 = g 4 (3 * 0 + 1) from rfl, ← n1]; exact c.2)
    rw [show 0 + 40 + 10 * d = 40 + 10 * d by omega] at a1
    have e1 := deedC_e (n := n) (k := k) (w := w) hP (by omega) (by omega) c.2 a1 tw.1
    have e2 := deedR_e (n := m) (k := k) (w := w) (t := t) gP h4 (d := d) (by omega) (by omega) (fun j hj => by rw [← a2 j hj, show 242 * 0 + 121 * d + j = 121 * d + j by omega]) tw.1
    exact ⟨_, _, _, e1, e2, R.gf hL hm (gP.fr (fun j hj => by rw [zup_ne (by omega), zup_ne (by omega)])) (fun a j q => by rw [zup_ne (by omega), zup_ne (by omega)]), fun _ _ => rfl⟩
  · have e1 : f_X11_deed n [1, x, k, w] h = some (-2, h) := by
      rw [e_X11_deed, xg_pos (hP.p (by decide)), findDay_e hP (by omega), xb_some, if_neg c, if_pos (by decide)]
    have e2 : f_X12_deed m [35, x, k, w] g = some (-2, zup (zup g 35 0 0) 35 33 x) := by
      rw [e_X12_deed, hasDay_e (gP.fr (fun j hj => by rw [zup_ne (by omega)])) (fun j hj => by rw [zup_ne (by omega)]; exact h4 j hj), xb_some, zup_ne (show ¬ (4 = 35 ∧ 1 = 0) by omega), if_neg (show ¬ (0 ≤ x ∧ x < g 4 1) by omega), if_pos rfl]
    exact ⟨_, _, _, e1, e2, R.gf hL hm (gP.fr (fun j hj => by rw [zup_ne (by omega), zup_ne (by omega)])) (fun a j q => by rw [zup_ne (by omega), zup_ne (by omega)]), fun _ _ => rfl⟩
