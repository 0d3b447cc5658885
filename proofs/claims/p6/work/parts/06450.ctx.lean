/-! the class: text() -/
theorem numberFor_e {n : Nat} {sort at_ : Int} {h : yH} (hP : cP h) (hm : ∀ j, j < 3 → 0 ≤ h 6 j ∧ h 6 j ≤ 2) : f_X9_numberFor n [3, sort, at_] h = some (txK (h 6) sort at_, h) := by
  have p31 := hP.p (a := 3) (j := 1) (v := 6) (by decide)
  rw [e_X9_numberFor]
  unfold txK
  by_cases h1 : sort < 0
  · rw [if_pos h1, if_neg (show ¬ (0 ≤ sort ∧ sort ≤ 2) by omega)]
  · rw [if_neg h1]
    by_cases h2 : sort < 3
    · have hb := hm sort.toNat (by omega)
      rw [if_pos h2, if_pos (show 0 ≤ sort ∧ sort ≤ 2 by omega)]
      by_cases h3 : at_ = -1
      · rw [if_pos h3, if_pos h3, xg_pos p31, xg_pos (by omega)]
        by_cases h4 : h 6 sort.toNat < 2
        · rw [if_pos h4, xg_pos p31, xg_pos (by omega), if_neg (show ¬ h 6 sort.toNat = 2 by omega)]
        · rw [if_neg h4, if_pos (show h 6 sort.toNat = 2 by omega)]
      · rw [if_neg h3, if_neg h3]
        by_cases h4 : at_ < 0
        · rw [if_pos h4, if_neg (show ¬ (0 ≤ at_ ∧ at_ < h 6 sort.toNat) by omega)]
        · rw [if_neg h4, xg_pos p31, xg_pos (by omega)]
          by_cases h5 : at_ < h 6 sort.toNat
          · rw [if_pos h5, if_pos (show 0 ≤ at_ ∧ at_ < h 6 sort.toNat by omega)]
          · rw [if_neg h5, if_neg (show ¬ (0 ≤ at_ ∧ at_ < h 6 sort.toNat) by omega)]
    · rw [if_neg h2, if_neg (show ¬ (0 ≤ sort ∧ sort ≤ 2) by omega)]
theorem txK_b {m : Nat → Int} {sort at_ : Int} (hm : ∀ j, j < 3 → 0 ≤ m j ∧ m j ≤ 2) (hk : txK m sort at_ ≠ -2) : (0 ≤ sort ∧ sort ≤ 2) ∧ 0 ≤ txK m sort at_ ∧ txK m sort at_ < 2 := by
  unfold txK at hk ⊢
  by_cases h1 : 0 ≤ sort ∧ sort ≤ 2
  · have hb := hm sort.toNat (by omega)
    rw [if_pos h1] at hk ⊢
    refine ⟨h1, ?_⟩
    by_cases h2 : at_ = -1
    · rw [if_pos h2] at hk ⊢
      by_cases h3 : m sort.toNat = 2
      · rw [if_pos h3] at hk
        exact absurd rfl hk
      · rw [if_neg h3]
        omega
    · rw [if_neg h2] at hk ⊢
      by_cases h3 : 0 ≤ at_ ∧ at_ < m sort.toNat
      · rw [if_pos h3]
        omega
      · rw [if_neg h3] at hk
        exact absurd rfl hk
  · rw [if_neg h1] at hk
    exact absurd rfl hk
/-- of pointers all cells of a kept one are known -/
theorem cF_k {P : Nat → Nat → Prop} (H : ∀ p ∈ cPL, P p.1 p.2.1) {a j : Nat} (w : cF a j = true) : P a j := by
  obtain ⟨p, hp, e⟩ := List.any_eq_true.mp w
  have e1 : p.1 = a ∧ p.2.1 = j := by simpa using e
  have := H p hp
  rw [e1.1, e1.2] at this
  exact this
/-- what keep() leaves -/
theorem keepC_e {n of k : Nat} {t : Nat → Int} {h : yH} (hof : of ≤ 2) (hk : k < 2) (hP : cP h) (hr : cR of t h) (hW : tWf of t) (hm : 0 ≤ h 6 of ∧ h 6 of ≤ 2) : ∃ h2, f_X9_keep n [3, 80, (of : Int), (k : Int)] h = some (0, h2) ∧ h2 6 of = max (h 6 of) ((k : Int) + 1) ∧ cO of k t h2 ∧ cP h2 ∧ ∀ a j, ¬ (a = 6 ∧ j = of) → ¬ (20 + 20 * of + 10 * k ≤ a ∧ a ≤ 27 + 20 * of + 10 * k) → h2 a j = h a j := by
  rcases (show of = 0 ∨ of = 1 ∨ of = 2 by omega) with rfl | rfl | rfl
  · rcases (show k = 0 ∨ k = 1 by omega) with rfl | rfl
    · obtain ⟨h2, a1, a2, a3, a4⟩ := keep_00 (n := n) hP (hr.1 rfl) (hW.1 rfl) hm
      refine ⟨h2, a1, a2, ⟨fun _ => a3, fun e => absurd e (by decide), fun e => absurd e (by decide)⟩, hP.fr (fun a j w => a4 a j (fun e => by rw [e.1, e.2] at w; exact absurd w (by decide)) ?_), fun a j w1 w2 => a4 a j w1 (Or.inl (by omega))⟩
      exact cF_k (P := fun a j => ¬ (20 ≤ a ∧ a ≤ 27) ∨ (a = 20 ∧ (j = 5 ∨ j = 7 ∨ j = 8 ∨ j = 9 ∨ j = 11 ∨ j = 12 ∨ j = 13))) (by decide +kernel) w
    · obtain ⟨h2, a1, a2, a3, a4⟩ := keep_01 (n := n) hP (hr.1 rfl) (hW.1 rfl) hm
      refine ⟨h2, a1, a2, ⟨fun _ => a3, fun e => absurd e (by decide), fun e => absurd e (by decide)⟩, hP.fr (fun a j w => a4 a j (fun e => by rw [e.1, e.2] at w; exact absurd w (by decide)) ?_), fun a j w1 w2 => a4 a j w1 (Or.inl (by omega))⟩
      exact cF_k (P := fun a j => ¬ (30 ≤ a ∧ a ≤ 37) ∨ (a = 30 ∧ (j = 5 ∨ j = 7 ∨ j = 8 ∨ j = 9 ∨ j = 11 ∨ j = 12 ∨ j = 13))) (by decide +kernel) w
  · rcases (show k = 0 ∨ k = 1 by omega) with rfl | rfl
    · obtain ⟨h2, a1, a2, a3, a4⟩ := keep_10 (n := n) hP (hr.2.1 rfl) (hW.2.1 rfl) hm
      refine ⟨h2, a1, a2, ⟨fun e => absurd e (by decide), fun _ => a3, fun e => absurd e (by decide)⟩, hP.fr (fun a j w => a4 a j (fun e => by rw [e.1, e.2] at w; exact absurd w (by decide)) ?_), fun a j w1 w2 => a4 a j w1 (Or.inl (by omega))⟩
      exact cF_k (P := fun a j => ¬ (40 ≤ a ∧ a ≤ 47) ∨ (a = 40 ∧ (j = 1 ∨ j = 2))) (by decide +kernel) w
    · obtain ⟨h2, a1, a2, a3, a4⟩ := keep_11 (n := n) hP (hr.2.1 rfl) (hW.2.1 rfl) hm
      refine ⟨h2, a1, a2, ⟨fun e => absurd e (by decide), fun _ => a3, fun e => absurd e (by decide)⟩, hP.fr (fun a j w => a4 a j (fun e => by rw [e.1, e.2] at w; exact absurd w (by decide)) ?_), fun a j w1 w2 => a4 a j w1 (Or.inl (by omega))⟩
      exact cF_k (P := fun a j => ¬ (50 ≤ a ∧ a ≤ 57) ∨ (a = 50 ∧ (j = 1 ∨ j = 2))) (by decide +kernel) w
  · rcases (show k = 0 ∨ k = 1 by omega) with rfl | rfl
    · obtain ⟨h2, a1, a2, a3, a4⟩ := keep_20 (n := n) hP (hr.2.2 rfl) (hW.2.2 rfl) hm
      refine ⟨h2, a1, a2, ⟨fun e => absurd e (by decide), fun e => absurd e (by decide), fun _ => a3⟩, hP.fr (fun a j w => a4 a j (fun e => by rw [e.1, e.2] at w; exact absurd w (by decide)) ?_), fun a j w1 w2 => a4 a j w1 (Or.inl (by omega))⟩
      exact cF_k (P := fun a j => ¬ (60 ≤ a ∧ a ≤ 67) ∨ (a = 60 ∧ (j = 1 ∨ j = 2 ∨ j = 4 ∨ j = 5))) (by decide +kernel) w
    · obtain ⟨h2, a1, a2, a3, a4⟩ := keep_21 (n := n) hP (hr.2.2 rfl) (hW.2.2 rfl) hm
      refine ⟨h2, a1, a2, ⟨fun e => absurd e (by decide), fun e => absurd e (by decide), fun _ => a3⟩, hP.fr (fun a j w => a4 a j (fun e => by rw [e.1, e.2] at w; exact absurd w (by decide)) ?_), fun a j w1 w2 => a4 a j w1 (Or.inl (by omega))⟩
      exact cF_k (P := fun a j => ¬ (70 ≤ a ∧ a ≤ 77) ∨ (a = 70 ∧ (j = 1 ∨ j = 2 ∨ j = 4 ∨ j = 5))) (by decide +kernel) w
/-- what text() leaves -/
def cxR (sort at_ : Int) (h : yH) (R : (Int × Int) × (Nat → Int)) (v : Int) (h2 : yH) : Prop :=
  cP h2 ∧ h2 4 1 = 0 ∧ (∀ a j, ¬ (a = 4 ∧ j = 1) → ¬ (a = 3 ∧ (j = 5 ∨ j = 6)) → ¬ (6 ≤ a ∧ a ≤ 121) → h2 a j = h a j) ∧
  ((txK (h 6) sort at_ = -2 ∧ v = -2 ∧ h2 3 5 = 0 ∧ h2 3 6 = -1 ∧ ∀ a j, 6 ≤ a ∧ a ≤ 79 → h2 a j = h a j) ∨
   (txK (h 6) sort at_ ≠ -2 ∧ h2 3 5 = R.1.1 ∧ h2 3 6 = R.1.2 ∧ ((R.1.1 ≠ 0 ∧ v = -1 ∧ ∀ a j, 6 ≤ a ∧ a ≤ 79 → h2 a j = h a j) ∨
    (R.1.1 = 0 ∧ v = txK (h 6) sort at_ ∧ tWf sort.toNat R.2 ∧ cO sort.toNat v.toNat R.2 h2 ∧ h2 6 sort.toNat = max (h 6 sort.toNat) (v + 1) ∧ ∀ a j, 6 ≤ a ∧ a ≤ 79 → ¬ (a = 6 ∧ j = sort.toNat) → ¬ (20 + 20 * sort.toNat + 10 * v.toNat ≤ a ∧ a ≤ 27 + 20 * sort.toNat + 10 * v.toNat) → h2 a j = h a j))))
theorem textC_e {u : Nat → Int} {N n : Nat} {sort at_ : Int} {t0 : Nat → Int} {h : yH} (hn : 2800 ≤ n) (hc : cC u N h) (hm : ∀ j, j < 3 → 0 ≤ h 6 j ∧ h 6 j ≤ 2) (ht : ∀ j, j < 121 → t0 j = tI sort.toNat j) : ∃ v h2, f_X11_text n [1, sort, at_] h = some (v, h2) ∧ cxR sort at_ h (pRd u N sort.toNat 700 0 (0, -1) t0 (-1) (-1)) v h2 := by
  have hP := hc.2.2.2
  rw [e_X11_text, xg_pos (hP.p (by decide)), numberFor_e hP hm, xb_some]
  by_cases hk : txK (h 6) sort at_ = -2
  · rw [if_pos hk, xg_pos (hP.p (by decide)), e_X9_takeTape, xg_pos (hP.p (by decide)), xb_some]
    refine ⟨_, _, rfl, ((hP.up (by decide)).up (by decide)).up (by decide), by rw [zup_ne (by omega), zup_ne (by omega), zup_at], fun a j w1 w2 w3 => by rw [zup_ne (by omega), zup_ne (by omega), zup_ne (by omega)], Or.inl ⟨hk, rfl, by rw [zup_ne (by omega), zup_at], by rw [zup_at], fun a j w => by rw [zup_ne (by omega), zup_ne (by omega), zup_ne (by omega)]⟩⟩
  · obtain ⟨hs, hk0, hk2⟩ := txK_b hm hk
    obtain ⟨of, rfl⟩ : ∃ of : Nat, sort = (of : Int) := ⟨sort.toNat, by omega⟩
    rw [Int.toNat_natCast] at ht ⊢
    have hof : of ≤ 2 := by omega
    obtain ⟨k, ek⟩ : ∃ k : Nat, txK (h 6) (of : Int) at_ = (k : Int) := ⟨(txK (h 6) (of : Int) at_).toNat, by omega⟩
    obtain ⟨g, r1, r2, r3, r4⟩ := read_e (n := n) hof hn hc ht
    rw [if_neg hk, xg_pos (hP.p (by decide)), xg_pos (hP.p (by decide)), xg_pos (hP.p (by decide)), r1, xb_some]
    generalize pRd u N of 700 0 (0, -1) t0 (-1) (-1) = R at r4 ⊢
    have gP := r2.2.2.2
    obtain ⟨q3, q4, t2, er, ew, et⟩ := r4
    rw [xg_pos (gP.p (by decide)), xg_pos (gP.p (by decide)), xg_pos (gP.p (by decide)), e_X9_takeTape, xg_pos (gP.p (by decide)), xb_some, q3, q4]
    have lP : cP (zup (zup (zup g 4 1 0) 3 5 R.1.1) 3 6 R.1.2) := ((gP.up (by decide)).up (by decide)).up (by decide)
    have l41 : (zup (zup (zup g 4 1 0) 3 5 R.1.1) 3 6 R.1.2) 4 1 = 0 := by rw [zup_ne (by omega), zup_ne (by omega), zup_at]
    have l35 : (zup (zup (zup g 4 1 0) 3 5 R.1.1) 3 6 R.1.2) 3 5 = R.1.1 := by rw [zup_ne (by omega), zup_at]
    have l36 : (zup (zup (zup g 4 1 0) 3 5 R.1.1) 3 6 R.1.2) 3 6 = R.1.2 := by rw [zup_at]
    have ln : ∀ a j, ¬ (a = 4 ∧ j = 1) → ¬ (a = 3 ∧ (j = 5 ∨ j = 6)) → (zup (zup (zup g 4 1 0) 3 5 R.1.1) 3 6 R.1.2) a j = g a j := fun a j w1 w2 => by rw [zup_ne (by omega), zup_ne (by omega), zup_ne (by omega)]
    generalize zup (zup (zup g 4 1 0) 3 5 R.1.1) 3 6 R.1.2 = l at *
    rw [xg_pos (lP.p (by decide)), ln 80 3 (by omega) (by omega), q3]
    have lh : ∀ a j, ¬ (a = 4 ∧ j = 1) → ¬ (a = 3 ∧ (j = 5 ∨ j = 6)) → ¬ (80 ≤ a ∧ a ≤ 121) → l a j = h a j := fun a j w1 w2 w3 => by rw [ln a j w1 w2]; exact r3 a j w3
    by_cases hz : R.1.1 = 0
    · have l6 : l 6 of = h 6 of := lh 6 of (by omega) (by omega) (by omega)
      have ett := et hz
      subst ett
      obtain ⟨h2, s1, s2, s3, s4, s5⟩ := keepC_e (n := n) (k := k) hof (by omega) lP (er.fr (fun a j w1 w2 => ln a j (by omega) (by omega))) ew (by rw [l6]; exact hm of (by omega))
      rw [if_pos hz, xg_pos (lP.p (by decide)), xg_pos (lP.p (by decide)), ek, s1, xb_some]
      refine ⟨_, h2, rfl, s4, by rw [s5 4 1 (by omega) (by omega)]; exact l41, fun a j w1 w2 w3 => by rw [s5 a j (by omega) (by omega)]; exact lh a j w1 w2 (by omega), Or.inr ⟨hk, by rw [s5 3 5 (by omega) (by omega)]; exact l35, by rw [s5 3 6 (by omega) (by omega)]; exact l36, Or.inr ⟨hz, ek.symm, by rw [Int.toNat_natCast]; exact ew, by rw [Int.toNat_natCast, Int.toNat_natCast]; exact s3, by rw [Int.toNat_natCast, s2, l6], fun a j w1 w2 w3 => ?_⟩⟩⟩
      rw [Int.toNat_natCast] at w2 w3
      rw [Int.toNat_natCast] at w3
      rw [s5 a j w2 w3]
      exact lh a j (by omega) (by omega) (by omega)
    · rw [if_neg hz]
      exact ⟨_, l, rfl, lP, l41, fun a j w1 w2 w3 => lh a j w1 w2 (by omega), Or.inr ⟨hk, l35, l36, Or.inl ⟨hz, rfl, fun a j w => lh a j (by omega) (by omega) (by omega)⟩⟩⟩
