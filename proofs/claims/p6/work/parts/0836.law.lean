/-! what feed, end, text leave of the images' array; an image made -/
theorem some_inj {a b : Int} {h g : yH} (e : (some (a, h) : yO) = some (b, g)) : a = b ∧ h = g := by
  have := Option.some.inj e
  exact ⟨congrArg Prod.fst this, congrArg Prod.snd this⟩
theorem fr2_feed {n : Nat} {x1 x2 x3 x4 x5 v : Int} {h h2 : yH} (hn : 6 ≤ n) (hP : cP h) (hm : 0 ≤ h 4 1 ∧ h 4 1 ≤ 600) (e : f_X11_feed n [1, x1, x2, x3, x4, x5] h = some (v, h2)) : ∀ k, h2 2 k = h 2 k := by
  intro k
  obtain ⟨N, eN⟩ : ∃ N : Nat, h 4 1 = (N : Int) := ⟨(h 4 1).toNat, by omega⟩
  obtain ⟨v', h', e', -, r⟩ := feedC_r (n := n) (x1 := x1) (x2 := x2) (x3 := x3) (x4 := x4) (x5 := x5) hn hP eN (by omega)
  obtain ⟨-, rfl⟩ := some_inj (e.symm.trans e')
  rcases r with ⟨-, -, r⟩ | ⟨-, -, -, r⟩
  · rw [r]
  · rw [r 2 k (by omega), if_neg (by omega)]
theorem fr2_end {n : Nat} {x v : Int} {h h2 : yH} (hP : cP h) (hm : 0 ≤ h 4 1 ∧ h 4 1 ≤ 600) (e : f_X11_end n [1, x] h = some (v, h2)) : ∀ k, h2 2 k = h 2 k := by
  intro k
  obtain ⟨v', h', e', r⟩ := endC_r (n := n) (x := x) hP hm
  obtain ⟨-, rfl⟩ := some_inj (e.symm.trans e')
  rcases r with ⟨-, -, r⟩ | ⟨-, -, r⟩
  · rw [r]
  · rw [r, zup_ne (by omega)]
theorem fr2_text {n : Nat} {sort at_ v : Int} {h h2 : yH} (hn : 2800 ≤ n) (hP : cP h) (hm : 0 ≤ h 4 1 ∧ h 4 1 ≤ 600) (h6 : ∀ j, j < 3 → 0 ≤ h 6 j ∧ h 6 j ≤ 2) (e : f_X11_text n [1, sort, at_] h = some (v, h2)) : ∀ k, h2 2 k = h 2 k := by
  intro k
  obtain ⟨v', h', e', r⟩ := textC_e (u := fun i => yari 7 (h 5 i) 255) (N := (h 4 1).toNat) (n := n) (sort := sort) (at_ := at_) (t0 := tI sort.toNat) hn ⟨by omega, by omega, fun _ _ => rfl, hP⟩ h6 (fun _ _ => rfl)
  obtain ⟨-, rfl⟩ := some_inj (e.symm.trans e')
  exact r.2.2.1 2 k (by omega) (by omega) (by omega)
theorem RX_of {F : Prop} {k : Nat} {h h' g : yH} (hk : k < 3) (R : RR F h g) (hL : lnI h) (hm : h 4 1 ≤ 600) (I : (∀ a j, ¬ (1000 * (k + 1) ≤ a ∧ a < 1000 * (k + 2)) → ¬ (a = 2 ∧ j = k) → h' a j = h a j) ∧ h' 2 k = ((1000 * (k + 1) + 3 : Nat) : Int) ∧ cPb (1000 * (k + 1)) h' ∧ h' (1000 * (k + 1) + 4) 1 ≤ 600) : RX F k h' g ∧ lnI h' ∧ h' 4 1 ≤ 600 := by
  obtain ⟨f, i2, ip, il⟩ := I
  obtain ⟨hP, gP, R0, RI0⟩ := R
  have low : ∀ a j, a < 1000 → a ≠ 2 → h' a j = h a j := fun a j w1 w2 => f a j (by omega) (by omega)
  refine ⟨⟨hP.fr (fun a j w => ?_), gP, R0.fr (fun a j w1 w2 => low a j (by omega) (by omega)) (fun _ _ _ => rfl) ⟨rfl, rfl, rfl⟩ (fun _ _ _ => rfl) (fun _ _ _ => rfl) (fun _ _ _ => rfl) (fun _ _ _ => rfl) hm, fun i hi hik => ?_, i2, ip⟩, fun i hi => ?_, by rw [low 4 1 (by omega) (by omega)]; exact hm⟩
  · obtain ⟨p, hp, e⟩ := List.any_eq_true.mp w
    have e1 : p.1 = a ∧ p.2.1 = j := by simpa using e
    have : ∀ p ∈ cPL, p.1 ≤ 200 ∧ p.1 ≠ 2 := by decide +kernel
    have := this p hp
    exact low a j (by omega) (by omega)
  · rw [f 2 i (by omega) (by omega)]
    rcases RI0 i hi with q | ⟨q1, q2, q3, q4⟩
    · exact Or.inl q
    · have li : h (1000 * (i + 1) + 4) 1 ≤ 600 := by
        rcases hL i hi with q | q
        · exact q
        · rw [q] at q2
          omega
      exact Or.inr ⟨q1, q2, q3.fr (fun p hp => f _ _ (by have := cPLb_b p hp; omega) (by omega)), q4.fr (fun a j w1 w2 => f a j (by omega) (by omega)) (fun _ _ _ => rfl) ⟨rfl, rfl, rfl⟩ (fun _ _ _ => rfl) (fun _ _ _ => rfl) (fun _ _ _ => rfl) (fun _ _ _ => rfl) li⟩
  · by_cases hik : i = k
    · rw [hik]
      exact Or.inl il
    · rw [f 2 i (by omega) (by omega), f (1000 * (i + 1) + 4) 1 (by omega) (by omega)]
      exact hL i hi
