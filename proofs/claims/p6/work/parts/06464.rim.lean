/-! images: made and gone back to -/
theorem RR.c0 {F : Prop} {h g : yH} (R : RR F h g) (hL : lnI h) (hm : h 4 1 ≤ 600) : RR F h (zup g 35 0 0) := by
  obtain ⟨hP, gP, R0, RI0⟩ := R
  exact ⟨hP, gP.fr (fun j hj => by rw [zup_ne (by omega)]), R0.fr (fun _ _ _ _ => rfl) (fun j _ _ => by rw [zup_ne (by omega)]) ⟨by rw [zup_ne (by omega)], by rw [zup_ne (by omega)], by rw [zup_ne (by omega)]⟩ (fun j _ _ => by rw [zup_ne (by omega)]) (fun j _ _ => by rw [zup_ne (by omega)]) (fun j _ _ => by rw [zup_ne (by omega)]) (fun j _ _ => by rw [zup_ne (by omega)]) hm, RI0.fr hL (fun _ _ _ => rfl) (fun _ => rfl) (fun j => by rw [zup_ne (by omega)]) (fun j _ => by rw [zup_ne (by omega)]) (fun a j _ _ => by rw [zup_ne (by omega)]) (fun j _ => by rw [zup_ne (by omega)]) (fun j _ => by rw [zup_ne (by omega)]) (fun j _ => by rw [zup_ne (by omega)]) (fun j _ => by rw [zup_ne (by omega)])⟩
theorem cPL_b : ∀ p ∈ cPL, p.1 ≤ 200 := by decide +kernel
theorem cPL_t : ∀ p ∈ cPL, (p.1 < 3 ∨ 80 ≤ p.1) ∨ ∃ q ∈ cPLb, q.1 = p.1 ∧ q.2.1 = p.2.1 ∧ (q.2.2 : Int) = p.2.2 := by decide +kernel
/-- the reference's block stays -/
theorem RB.ra {F : Prop} {B κ f t : Nat} {h h2 g g2 : yH} (R : RB F B κ h g) (hκ : κ ≠ t) (hc : ∀ a j, B + 3 ≤ a → a ≤ B + 79 → h2 a j = h a j) (hr : raR f t g g2) (hl : h (B + 4) 1 ≤ 600) : RB F B κ h2 g2 := by
  obtain ⟨-, -, -, -, -, -, -, -, s0, s1, s4, s5, s6, s7, -⟩ := hr
  exact R.fr hc (fun j _ _ => s0 j (by omega)) ⟨s1 1 κ (by omega) hκ, s1 2 κ (by omega) hκ, s1 3 κ (by omega) hκ⟩ (fun j _ _ => s4 j (by omega)) (fun j _ _ => s5 j (by omega)) (fun j _ _ => s6 j (by omega)) (fun j _ _ => s7 j (by omega)) hl
theorem RB.k34 {F : Prop} {B κ k : Nat} {x : Int} {h g : yH} (R : RB F B κ h g) (hl : h (B + 4) 1 ≤ 600) : RB F B κ h (zup g 34 k x) := R.fr (fun _ _ _ _ => rfl) (fun j _ _ => by rw [zup_ne (by omega)]) ⟨by rw [zup_ne (by omega)], by rw [zup_ne (by omega)], by rw [zup_ne (by omega)]⟩ (fun j _ _ => by rw [zup_ne (by omega)]) (fun j _ _ => by rw [zup_ne (by omega)]) (fun j _ _ => by rw [zup_ne (by omega)]) (fun j _ _ => by rw [zup_ne (by omega)]) hl
/-- what holds where image k is there as a cell, whatever it tells -/
def RX (F : Prop) (k : Nat) (h g : yH) : Prop := cP h ∧ rP g ∧ RB F 0 0 h g ∧ (∀ i, i < 3 → i ≠ k → (g 34 i = 0 ∧ h 2 i = -1) ∨ (g 34 i = 1 ∧ h 2 i = ((1000 * (i + 1) + 3 : Nat) : Int) ∧ cPb (1000 * (i + 1)) h ∧ RB F (1000 * (i + 1)) (i + 1) h g)) ∧ h 2 k = ((1000 * (k + 1) + 3 : Nat) : Int) ∧ cPb (1000 * (k + 1)) h
theorem RR.x {F : Prop} {k : Nat} {h g : yH} (R : RR F h g) (hk : k < 3) (h2 : h 2 k ≠ -1) : RX F k h g := by
  obtain ⟨a, b, c, d⟩ := R
  rcases d k hk with q | q
  · exact absurd q.2 h2
  · exact ⟨a, b, c, fun i hi _ => d i hi, q.2.1, q.2.2.1⟩
theorem RX_image {F : Prop} {k m : Nat} {h h2 g : yH} (hn : 1000 ≤ m) (hk : k < 3) (R : RX F k h g) (hL : lnI h) (hm : h 4 1 ≤ 600) (gb : rBd g) (p63 : g 35 63 = 34) (hc : tcR (1000 * (k + 1)) 0 h h2) : ∃ g2, f_X12_image m [35, (k : Int)] g = some (1, g2) ∧ RR F h2 g2 := by
  obtain ⟨hP, gP, R0, RI0, hk2, -⟩ := R
  have gP1 : rP (zup g 35 0 0) := gP.fr (fun j hj => by rw [zup_ne (by omega)])
  have gb1 : rBd (zup g 35 0 0) := fun a ha j hj => by
    rw [zup_ne (by omega)]
    exact gb a ha j hj
  have R1 : RB F 0 0 h (zup g 35 0 0) := R0.fr (fun _ _ _ _ => rfl) (fun j _ _ => by rw [zup_ne (by omega)]) ⟨by rw [zup_ne (by omega)], by rw [zup_ne (by omega)], by rw [zup_ne (by omega)]⟩ (fun j _ _ => by rw [zup_ne (by omega)]) (fun j _ _ => by rw [zup_ne (by omega)]) (fun j _ _ => by rw [zup_ne (by omega)]) (fun j _ _ => by rw [zup_ne (by omega)]) hm
  have I1 : ∀ i, i < 3 → i ≠ k → ((zup g 35 0 0) 34 i = 0 ∧ h 2 i = -1) ∨ ((zup g 35 0 0) 34 i = 1 ∧ h 2 i = ((1000 * (i + 1) + 3 : Nat) : Int) ∧ cPb (1000 * (i + 1)) h ∧ RB F (1000 * (i + 1)) (i + 1) h (zup g 35 0 0)) := fun i hi hik => by
    rw [zup_ne (by omega)]
    rcases RI0 i hi hik with q | ⟨q1, q2, q3, q4⟩
    · exact Or.inl q
    · refine Or.inr ⟨q1, q2, q3, q4.fr (fun _ _ _ _ => rfl) (fun j _ _ => by rw [zup_ne (by omega)]) ⟨by rw [zup_ne (by omega)], by rw [zup_ne (by omega)], by rw [zup_ne (by omega)]⟩ (fun j _ _ => by rw [zup_ne (by omega)]) (fun j _ _ => by rw [zup_ne (by omega)]) (fun j _ _ => by rw [zup_ne (by omega)]) (fun j _ _ => by rw [zup_ne (by omega)]) ?_⟩
      rcases hL i hi with q | q
      · exact q
      · rw [q] at q2
        omega
  have p1 : (zup g 35 0 0) 35 63 = 34 := by rw [zup_ne (by omega)]; exact p63
  have e0 : f_X12_image m [35, (k : Int)] g = _ := e_X12_image
  rw [in_t (by omega), xb_some, if_neg (by decide), xg_pos (by omega)] at e0
  generalize zup g 35 0 0 = g1 at *
  obtain ⟨v, g2, e1, hr⟩ := call_e (n := m) (f := 0) (t := k + 1) hn gP1 gb1 (by omega) (by omega) (by omega)
  rw [show ((0 : Nat) : Int) = 0 from rfl, show (((k + 1 : Nat)) : Int) = (k : Int) + 1 by omega] at e1
  have f8 := hr.2.2.2.2.2.2.2.2.2.2.2.2.2.2
  rw [e1, xb_some, xg_pos (by rw [f8 _ _ (by omega)]; exact p1), xg_pos (by omega), Int.toNat_natCast] at e0
  have hcf := hc.2.2.2.2.2.2.2.2.2
  have Bcp : RB F (1000 * (k + 1)) (k + 1) h2 g2 := R1.cp hm hc hr
  have l2 : ∀ i, i < 3 → i ≠ k → h2 (1000 * (i + 1) + 4) 1 = h (1000 * (i + 1) + 4) 1 := fun i hi hik => hcf _ _ (by omega)
  refine ⟨_, e0, hP.fr (fun a j w => hcf _ _ ?_), gP1.fr (fun j hj => by rw [zup_ne (by omega), f8 _ _ (by omega)]), (R1.ra (by omega) (fun a j w1 w2 => hcf _ _ (by omega)) hr hm).k34 (by rw [hcf _ _ (by omega)]; exact hm), fun i hi => ?_⟩
  · obtain ⟨p, hp, e⟩ := List.any_eq_true.mp w
    have e1 : p.1 = a ∧ p.2.1 = j := by simpa using e
    have := cPL_b p hp
    omega
  · have h2i : h2 2 i = h 2 i := hcf _ _ (by omega)
    by_cases hik : i = k
    · subst hik
      refine Or.inr ⟨by rw [zup_at], by rw [h2i]; exact hk2, hc.2.2.2.2.2.2.2.2.1, Bcp.k34 ?_⟩
      rw [hc.1]
      exact hm
    · rw [zup_ne (by omega), f8 _ _ (by omega), h2i]
      rcases I1 i hi hik with q | ⟨q1, q2, q3, q4⟩
      · exact Or.inl q
      · have li : h (1000 * (i + 1) + 4) 1 ≤ 600 := by
          rcases hL i hi with q | q
          · exact q
          · rw [q] at q2
            omega
        exact Or.inr ⟨q1, q2, q3.fr (fun p hp => hcf _ _ (by have := cPLb_b p hp; omega)), (q4.ra (by omega) (fun a j w1 w2 => hcf _ _ (by omega)) hr li).k34 (by rw [l2 i hi hik]; exact li)⟩
theorem RR_imageN {F : Prop} {m : Nat} {x : Int} {h g : yH} (R : RR F h g) (hL : lnI h) (hm : h 4 1 ≤ 600) (hx : ¬ (0 ≤ x ∧ x < 3)) : f_X12_image m [35, x] g = some (0, zup g 35 0 0) ∧ RR F h (zup g 35 0 0) := by
  have e0 : f_X12_image m [35, x] g = _ := e_X12_image
  rw [in_f (by omega), xb_some, if_pos rfl] at e0
  exact ⟨e0, R.c0 hL hm⟩
theorem RR_againN {F : Prop} {m : Nat} {x : Int} {h g : yH} (R : RR F h g) (hL : lnI h) (hm : h 4 1 ≤ 600) (p63 : g 35 63 = 34) (hx : ¬ (0 ≤ x ∧ x < 3) ∨ h 2 x.toNat = -1) : f_X12_again m [35, x] g = some (0, zup g 35 0 0) ∧ RR F h (zup g 35 0 0) := by
  have e0 : f_X12_again m [35, x] g = _ := e_X12_again
  by_cases w : 0 ≤ x ∧ x < 3
  · have h2 : h 2 x.toNat = -1 := hx.resolve_left (fun q => q w)
    have z : g 34 x.toNat = 0 := by
      rcases R.2.2.2 x.toNat (by omega) with q | q
      · exact q.1
      · have := q.2.1
        omega
    rw [in_t (by omega), xb_some, if_neg (by decide), xg_pos (by rw [zup_ne (by omega)]; exact p63), xg_pos w, if_pos (by rw [zup_ne (by omega)]; exact z)] at e0
    exact ⟨e0, R.c0 hL hm⟩
  · rw [in_f (by omega), xb_some, if_pos rfl] at e0
    exact ⟨e0, R.c0 hL hm⟩
theorem RR_again {F : Prop} {k m : Nat} {h h2 g : yH} (hn : 1000 ≤ m) (hk : k < 3) (R : RR F h g) (h2k : h 2 k ≠ -1) (hL : lnI h) (hm : h 4 1 ≤ 600) (gb : rBd g) (p63 : g 35 63 = 34) (hc : tcR 0 (1000 * (k + 1)) h h2) : ∃ g2, f_X12_again m [35, (k : Int)] g = some (1, g2) ∧ RR F h2 g2 := by
  have R1 := R.c0 hL hm
  have gb1 : rBd (zup g 35 0 0) := fun a ha j hj => by
    rw [zup_ne (by omega)]
    exact gb a ha j hj
  have p1 : (zup g 35 0 0) 35 63 = 34 := by rw [zup_ne (by omega)]; exact p63
  have e0 : f_X12_again m [35, (k : Int)] g = _ := e_X12_again
  rw [in_t (by omega), xb_some, if_neg (by decide)] at e0
  generalize zup g 35 0 0 = g1 at *
  obtain ⟨hP, gP1, R0, RI0⟩ := R1
  obtain ⟨v, g2, e1, hr⟩ := call_e (n := m) (f := k + 1) (t := 0) hn gP1 gb1 (by omega) (by omega) (by omega)
  rw [show ((0 : Nat) : Int) = 0 from rfl, show (((k + 1 : Nat)) : Int) = (k : Int) + 1 by omega] at e1
  have f8 := hr.2.2.2.2.2.2.2.2.2.2.2.2.2.2
  have hcf := hc.2.2.2.2.2.2.2.2.2
  rcases RI0 k hk with q | ⟨q1, q2, q3, q4⟩
  · exact absurd q.2 h2k
  · rw [xg_pos p1, xg_pos (by omega), Int.toNat_natCast, if_neg (by rw [q1]; decide), xg_pos (by omega), e1, xb_some] at e0
    have lk : h (1000 * (k + 1) + 4) 1 ≤ 600 := by
      rcases hL k hk with q | q
      · exact q
      · exact absurd q h2k
    refine ⟨_, e0, fun p hp => ?_, gP1.fr (fun j hj => f8 _ _ (by omega)), q4.cp lk hc hr, fun i hi => ?_⟩
    · rcases cPL_t p hp with w | ⟨r, hr1, hr2, hr3, hr4⟩
      · rw [hcf _ _ (by omega)]
        exact hP p hp
      · have := hc.2.2.2.2.2.2.2.2.1 r hr1
        rw [Nat.zero_add, Nat.zero_add, hr2, hr3, hr4] at this
        exact this
    · rw [f8 _ _ (by omega), show h2 2 i = h 2 i from hcf _ _ (by omega)]
      rcases RI0 i hi with w | ⟨w1, w2, w3, w4⟩
      · exact Or.inl w
      · have li : h (1000 * (i + 1) + 4) 1 ≤ 600 := by
          rcases hL i hi with q | q
          · exact q
          · rw [q] at w2
            omega
        exact Or.inr ⟨w1, w2, w3.fr (fun p hp => hcf _ _ (by omega)), w4.ra (by omega) (fun a j u1 u2 => hcf _ _ (by omega)) hr li⟩
