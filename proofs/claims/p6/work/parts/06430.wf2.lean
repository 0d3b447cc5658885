/-! what a line says keeps the bounds -/
theorem lnT_W0 {ln : Nat} {v t : Nat → Int} (hln : ln < 7) (h : tW0 t) (hg : ∀ j, j < lnN ln → ¬ lnB ln v j) (hf : ¬ (lnAdds ln ∧ t (lnC ln) = lnM ln)) : tW0 (lnT ln v t) := by
  obtain ⟨h0, h1, h2, h3, h4, h5, h6, h49, hc, hs, hb⟩ := h
  rcases (show ln = 0 ∨ ln = 1 ∨ ln = 2 ∨ ln = 3 ∨ ln = 4 ∨ ln = 5 ∨ ln = 6 by omega) with rfl | rfl | rfl | rfl | rfl | rfl | rfl
  · have g0 := lnG (lo := 2) (hi := 8) (hg 0 (by decide)) (by decide) (by decide)
    have g1 := lnG (lo := 2) (hi := 8) (hg 1 (by decide)) (by decide) (by decide)
    show tW0 (tU (tU (t) 0 (v 0)) 1 (v 1))
    exact ⟨by rw [tU_ne (by decide), tU_at]; exact g0, by rw [tU_at]; exact g1, by rw [tU_ne (by decide), tU_ne (by decide)]; exact h2, by rw [tU_ne (by decide), tU_ne (by decide)]; exact h3, by rw [tU_ne (by decide), tU_ne (by decide)]; exact h4, by rw [tU_ne (by decide), tU_ne (by decide)]; exact h5, by rw [tU_ne (by decide), tU_ne (by decide)]; exact h6, by rw [tU_ne (by decide), tU_ne (by decide)]; exact h49, fun c w => by rw [tU_ne (by omega), tU_ne (by omega), tU_ne (by omega), tU_ne (by omega), tU_ne (by omega), tU_ne (by omega), tU_ne (by omega), tU_ne (by omega)]; exact hc c w, fun s w => by rw [tU_ne (by omega), tU_ne (by omega), tU_ne (by omega), tU_ne (by omega), tU_ne (by omega), tU_ne (by omega), tU_ne (by omega), tU_ne (by omega)]; exact hs s w, fun b w => by rw [tU_ne (by omega), tU_ne (by omega), tU_ne (by omega), tU_ne (by omega), tU_ne (by omega), tU_ne (by omega)]; exact hb b w⟩
  · have g0 := lnG (lo := 0) (hi := 3) (hg 0 (by decide)) (by decide) (by decide)
    have g1 := lnG (lo := 0) (hi := 3) (hg 1 (by decide)) (by decide) (by decide)
    show tW0 (tU (tU (t) 2 (v 0)) 3 (v 1))
    exact ⟨by rw [tU_ne (by decide), tU_ne (by decide)]; exact h0, by rw [tU_ne (by decide), tU_ne (by decide)]; exact h1, by rw [tU_ne (by decide), tU_at]; exact g0, by rw [tU_at]; exact g1, by rw [tU_ne (by decide), tU_ne (by decide)]; exact h4, by rw [tU_ne (by decide), tU_ne (by decide)]; exact h5, by rw [tU_ne (by decide), tU_ne (by decide)]; exact h6, by rw [tU_ne (by decide), tU_ne (by decide)]; exact h49, fun c w => by rw [tU_ne (by omega), tU_ne (by omega), tU_ne (by omega), tU_ne (by omega), tU_ne (by omega), tU_ne (by omega), tU_ne (by omega), tU_ne (by omega)]; exact hc c w, fun s w => by rw [tU_ne (by omega), tU_ne (by omega), tU_ne (by omega), tU_ne (by omega), tU_ne (by omega), tU_ne (by omega), tU_ne (by omega), tU_ne (by omega)]; exact hs s w, fun b w => by rw [tU_ne (by omega), tU_ne (by omega), tU_ne (by omega), tU_ne (by omega), tU_ne (by omega), tU_ne (by omega)]; exact hb b w⟩
  · have g0 := lnG (lo := 1) (hi := 9) (hg 0 (by decide)) (by decide) (by decide)
    show tW0 (tU (t) 4 (v 0))
    exact ⟨by rw [tU_ne (by decide)]; exact h0, by rw [tU_ne (by decide)]; exact h1, by rw [tU_ne (by decide)]; exact h2, by rw [tU_ne (by decide)]; exact h3, by rw [tU_at]; exact g0, by rw [tU_ne (by decide)]; exact h5, by rw [tU_ne (by decide)]; exact h6, by rw [tU_ne (by decide)]; exact h49, fun c w => by rw [tU_ne (by omega), tU_ne (by omega), tU_ne (by omega), tU_ne (by omega)]; exact hc c w, fun s w => by rw [tU_ne (by omega), tU_ne (by omega), tU_ne (by omega), tU_ne (by omega)]; exact hs s w, fun b w => by rw [tU_ne (by omega), tU_ne (by omega), tU_ne (by omega)]; exact hb b w⟩
  · have g0 := lnG (lo := 0) (hi := 2) (hg 0 (by decide)) (by decide) (by decide)
    have g1 := lnG (lo := 1) (hi := 20) (hg 1 (by decide)) (by decide) (by decide)
    have g2 := lnG (lo := 0) (hi := 5) (hg 2 (by decide)) (by decide) (by decide)
    have g3 := lnG (lo := 0) (hi := 20) (hg 3 (by decide)) (by decide) (by decide)
    have g4 := lnG (lo := 1) (hi := 30) (hg 4 (by decide)) (by decide) (by decide)
    obtain ⟨d, hd⟩ : ∃ d : Nat, v 0 = (d : Int) := ⟨(v 0).toNat, by omega⟩
    show tW0 (tU (tU (tU (tU t (7 + 4 * (v 0).toNat) (v 1)) (7 + 4 * (v 0).toNat + 1) (v 2)) (7 + 4 * (v 0).toNat + 2) (v 3)) (7 + 4 * (v 0).toNat + 3) (v 4))
    rw [hd, Int.toNat_natCast]
    have ne : ∀ j, ¬ (7 + 4 * d ≤ j ∧ j < 7 + 4 * d + 4) → (tU (tU (tU (tU t (7 + 4 * d) (v 1)) (7 + 4 * d + 1) (v 2)) (7 + 4 * d + 2) (v 3)) (7 + 4 * d + 3) (v 4)) j = t j := fun j w => by
      rw [tU_ne (by omega), tU_ne (by omega), tU_ne (by omega), tU_ne (by omega)]
    refine ⟨by rw [ne 0 (by omega)]; exact h0, by rw [ne 1 (by omega)]; exact h1, by rw [ne 2 (by omega)]; exact h2, by rw [ne 3 (by omega)]; exact h3, by rw [ne 4 (by omega)]; exact h4, by rw [ne 5 (by omega)]; exact h5, by rw [ne 6 (by omega)]; exact h6, by rw [ne 49 (by omega)]; exact h49, fun c w => ?_, fun s w => by rw [ne _ (by omega), ne _ (by omega), ne _ (by omega), ne _ (by omega)]; exact hs s w, fun b w => by rw [ne _ (by omega), ne _ (by omega), ne _ (by omega)]; exact hb b w⟩
    by_cases e : c = d
    · subst e
      refine ⟨?_, ?_, ?_, ?_⟩
      · rw [tU_ne (by omega), tU_ne (by omega), tU_ne (by omega), tU_at]; exact g1
      · rw [show 8 + 4 * c = 7 + 4 * c + 1 by omega, tU_ne (by omega), tU_ne (by omega), tU_at]; exact g2
      · rw [show 9 + 4 * c = 7 + 4 * c + 2 by omega, tU_ne (by omega), tU_at]; exact g3
      · rw [show 10 + 4 * c = 7 + 4 * c + 3 by omega, tU_at]; exact g4
    · rw [ne _ (by omega), ne _ (by omega), ne _ (by omega), ne _ (by omega)]; exact hc c w
  · have g0 := lnG (lo := 0) (hi := 63) (hg 0 (by decide)) (by decide) (by decide)
    have g1 := lnG (lo := 1) (hi := 99) (hg 1 (by decide)) (by decide) (by decide)
    have g2 := lnG (lo := 0) (hi := 4) (hg 2 (by decide)) (by decide) (by decide)
    have hne : t 5 ≠ ((4 : Nat) : Int) := fun w => hf ⟨by unfold lnAdds; omega, w⟩
    obtain ⟨d, hd⟩ : ∃ d : Nat, t 5 = (d : Int) := ⟨(t 5).toNat, by omega⟩
    have ed : (t 5).toNat = d := by omega
    show tW0 (tK t 5 19 3 4 v)
    have ne : ∀ j, j ≠ 5 → ¬ (19 + 3 * d ≤ j ∧ j < 19 + 3 * d + 3) → tK t 5 19 3 4 v j = t j := fun j w1 w2 => tK_old w1 (by rw [ed]; exact w2)
    have nw : ∀ r, r < 3 → tK t 5 19 3 4 v (19 + 3 * d + r) = v r := fun r hr => by
      have := @tK_new t 5 19 3 4 r v hne hr (by decide)
      rw [ed] at this
      exact this
    have nc : tK t 5 19 3 4 v 5 = t 5 + 1 := tK_c1 hne
    refine ⟨by rw [ne 0 (by omega) (by omega)]; exact h0, by rw [ne 1 (by omega) (by omega)]; exact h1, by rw [ne 2 (by omega) (by omega)]; exact h2, by rw [ne 3 (by omega) (by omega)]; exact h3, by rw [ne 4 (by omega) (by omega)]; exact h4, by rw [nc]; omega, by rw [ne 6 (by omega) (by omega)]; exact h6, by rw [ne 49 (by omega) (by omega)]; exact h49, fun c w => by rw [ne _ (by omega) (by omega), ne _ (by omega) (by omega), ne _ (by omega) (by omega), ne _ (by omega) (by omega)]; exact hc c w, fun s w => ?_, fun b w => by rw [ne _ (by omega) (by omega), ne _ (by omega) (by omega), ne _ (by omega) (by omega)]; exact hb b w⟩
    by_cases e : s = d
    · subst e
      have n0 := nw 0 (by decide)
      have n1 := nw 1 (by decide)
      have n2 := nw 2 (by decide)
      rw [Nat.add_zero] at n0
      rw [show 20 + 3 * s = 19 + 3 * s + 1 by omega, show 21 + 3 * s = 19 + 3 * s + 2 by omega, n0, n1, n2]
      omega
    · have := hs s w
      rw [ne (19 + 3 * s) (by omega) (by omega), ne (20 + 3 * s) (by omega) (by omega), ne (21 + 3 * s) (by omega) (by omega), nc]
      refine ⟨this.1, ⟨this.2.1.1, this.2.1.2.1, fun w2 => this.2.1.2.2 (by omega)⟩, this.2.2⟩
  · have g0 := lnG (lo := 0) (hi := 63) (hg 0 (by decide)) (by decide) (by decide)
    have g1 := lnG (lo := 0) (hi := 20) (hg 1 (by decide)) (by decide) (by decide)
    have g2 := lnG (lo := 0) (hi := 2) (hg 2 (by decide)) (by decide) (by decide)
    have hne : t 6 ≠ ((6 : Nat) : Int) := fun w => hf ⟨by unfold lnAdds; omega, w⟩
    obtain ⟨d, hd⟩ : ∃ d : Nat, t 6 = (d : Int) := ⟨(t 6).toNat, by omega⟩
    have ed : (t 6).toNat = d := by omega
    show tW0 (tK t 6 31 3 6 v)
    have ne : ∀ j, j ≠ 6 → ¬ (31 + 3 * d ≤ j ∧ j < 31 + 3 * d + 3) → tK t 6 31 3 6 v j = t j := fun j w1 w2 => tK_old w1 (by rw [ed]; exact w2)
    have nw : ∀ r, r < 3 → tK t 6 31 3 6 v (31 + 3 * d + r) = v r := fun r hr => by
      have := @tK_new t 6 31 3 6 r v hne hr (by decide)
      rw [ed] at this
      exact this
    have nc : tK t 6 31 3 6 v 6 = t 6 + 1 := tK_c1 hne
    refine ⟨by rw [ne 0 (by omega) (by omega)]; exact h0, by rw [ne 1 (by omega) (by omega)]; exact h1, by rw [ne 2 (by omega) (by omega)]; exact h2, by rw [ne 3 (by omega) (by omega)]; exact h3, by rw [ne 4 (by omega) (by omega)]; exact h4, by rw [ne 5 (by omega) (by omega)]; exact h5, by rw [nc]; omega, by rw [ne 49 (by omega) (by omega)]; exact h49, fun c w => by rw [ne _ (by omega) (by omega), ne _ (by omega) (by omega), ne _ (by omega) (by omega), ne _ (by omega) (by omega)]; exact hc c w, fun s w => by rw [ne (19 + 3 * s) (by omega) (by omega), ne (20 + 3 * s) (by omega) (by omega), ne (21 + 3 * s) (by omega) (by omega), ne 5 (by omega) (by omega)]; exact hs s w, fun b w => ?_⟩
    by_cases e : b = d
    · subst e
      have n0 := nw 0 (by decide)
      have n1 := nw 1 (by decide)
      have n2 := nw 2 (by decide)
      rw [Nat.add_zero] at n0
      rw [show 32 + 3 * b = 31 + 3 * b + 1 by omega, show 33 + 3 * b = 31 + 3 * b + 2 by omega, n0, n1, n2]
      omega
    · rw [ne _ (by omega) (by omega), ne _ (by omega) (by omega), ne _ (by omega) (by omega)]
      exact hb b w
  · have g0 := lnG (lo := 0) (hi := 5) (hg 0 (by decide)) (by decide) (by decide)
    have g := or6 (d := t 49) (r := v 0) h49 g0
    show tW0 (tU t 49 (yari 8 (t 49) (yari 5 1 (v 0))))
    exact ⟨by rw [tU_ne (by decide)]; exact h0, by rw [tU_ne (by decide)]; exact h1, by rw [tU_ne (by decide)]; exact h2, by rw [tU_ne (by decide)]; exact h3, by rw [tU_ne (by decide)]; exact h4, by rw [tU_ne (by decide)]; exact h5, by rw [tU_ne (by decide)]; exact h6, by rw [tU_at]; exact g, fun c w => by rw [tU_ne (by omega), tU_ne (by omega), tU_ne (by omega), tU_ne (by omega)]; exact hc c w, fun s w => by rw [tU_ne (by omega), tU_ne (by omega), tU_ne (by omega), tU_ne (by omega)]; exact hs s w, fun b w => by rw [tU_ne (by omega), tU_ne (by omega), tU_ne (by omega)]; exact hb b w⟩
theorem lnT_W1 {ln : Nat} {v t : Nat → Int} (hln : 7 ≤ ln ∧ ln ≤ 12) (h : tW1 t) (hg : ∀ j, j < lnN ln → ¬ lnB ln v j) (hf : ¬ (lnAdds ln ∧ t (lnC ln) = lnM ln)) : tW1 (lnT ln v t) := by
  obtain ⟨h0, hk⟩ := h
  have hC : lnC ln = 0 := by unfold lnC; rw [if_neg (by omega), if_neg (by omega), if_neg (by omega)]
  have hM : lnM ln = 30 := by unfold lnM; rw [if_neg (by omega), if_neg (by omega), if_neg (by omega), if_neg (by omega)]
  have hne : t 0 ≠ ((30 : Nat) : Int) := fun w => hf ⟨by unfold lnAdds; omega, by rw [hC, hM]; exact w⟩
  obtain ⟨d, hd⟩ : ∃ d : Nat, t 0 = (d : Int) := ⟨(t 0).toNat, by omega⟩
  have ed : (t 0).toNat = d := by omega
  have hT : lnT ln v t = tK t 0 1 4 30 (fun i => if i = 0 then (ln : Int) - 7 else if i ≤ lnN ln then v (i - 1) else -1) := by
    unfold lnT
    rw [if_neg (by omega), if_neg (by omega), if_neg (by omega), if_neg (by omega), if_neg (by omega), if_neg (by omega), if_neg (by omega), if_neg (by omega), if_neg (by omega)]
  rw [hT]
  generalize hV : (fun i => if i = 0 then (ln : Int) - 7 else if i ≤ lnN ln then v (i - 1) else -1) = V
  have hD : tWd (V 0) (V 1) (V 2) (V 3) := by
    rw [← hV]
    unfold tWd
    rcases (show ln = 7 ∨ ln = 8 ∨ ln = 9 ∨ ln = 10 ∨ ln = 11 ∨ ln = 12 by omega) with rfl | rfl | rfl | rfl | rfl | rfl
    · have g0 := lnG (lo := 0) (hi := 5) (hg 0 (by decide)) (by decide) (by decide)
      have g1 := lnG (lo := 0) (hi := 3) (hg 1 (by decide)) (by decide) (by decide)
      exact Or.inl ⟨rfl, g0, g1, rfl⟩
    · have g0 := lnG (lo := 0) (hi := 5) (hg 0 (by decide)) (by decide) (by decide)
      have g1 := lnG (lo := 0) (hi := 5) (hg 1 (by decide)) (by decide) (by decide)
      have g2 := lnG (lo := 1) (hi := 20) (hg 2 (by decide)) (by decide) (by decide)
      exact Or.inr (Or.inl ⟨rfl, g0, g1, g2⟩)
    · have g0 := lnG (lo := 0) (hi := 5) (hg 0 (by decide)) (by decide) (by decide)
      have g1 := lnG (lo := 1) (hi := 20) (hg 1 (by decide)) (by decide) (by decide)
      exact Or.inr (Or.inr (Or.inl ⟨rfl, g0, g1, rfl⟩))
    · have g0 := lnG (lo := 0) (hi := 5) (hg 0 (by decide)) (by decide) (by decide)
      have g1 := lnG (lo := 0) (hi := 5) (hg 1 (by decide)) (by decide) (by decide)
      exact Or.inr (Or.inr (Or.inr (Or.inl ⟨Or.inl rfl, g0, g1, rfl⟩)))
    · have g0 := lnG (lo := 0) (hi := 5) (hg 0 (by decide)) (by decide) (by decide)
      have g1 := lnG (lo := 0) (hi := 5) (hg 1 (by decide)) (by decide) (by decide)
      exact Or.inr (Or.inr (Or.inr (Or.inl ⟨Or.inr rfl, g0, g1, rfl⟩)))
    · exact Or.inr (Or.inr (Or.inr (Or.inr ⟨rfl, rfl, rfl, rfl⟩)))
  have nc : tK t 0 1 4 30 V 0 = t 0 + 1 := tK_c1 hne
  have nw : ∀ r, r < 4 → tK t 0 1 4 30 V (1 + 4 * d + r) = V r := fun r hr => by
    have := @tK_new t 0 1 4 30 r V hne hr (by decide)
    rw [ed] at this
    exact this
  have ne : ∀ j, j ≠ 0 → ¬ (1 + 4 * d ≤ j ∧ j < 1 + 4 * d + 4) → tK t 0 1 4 30 V j = t j := fun j w1 w2 => tK_old w1 (by rw [ed]; exact w2)
  refine ⟨by rw [nc]; omega, fun k w => ?_⟩
  rw [nc]
  by_cases e : k = d
  · subst e
    have n0 := nw 0 (by decide)
    have n1 := nw 1 (by decide)
    have n2 := nw 2 (by decide)
    have n3 := nw 3 (by decide)
    rw [Nat.add_zero] at n0
    rw [show 2 + 4 * k = 1 + 4 * k + 1 by omega, show 3 + 4 * k = 1 + 4 * k + 2 by omega, show 4 + 4 * k = 1 + 4 * k + 3 by omega, n0, n1, n2, n3]
    exact ⟨fun _ => hD, fun w2 => by omega⟩
  · have := hk k w
    rw [ne _ (by omega) (by omega), ne _ (by omega) (by omega), ne _ (by omega) (by omega), ne _ (by omega) (by omega)]
    exact ⟨fun w2 => this.1 (by omega), fun w2 => this.2 (by omega)⟩
theorem lnT_W2 {ln : Nat} {v t : Nat → Int} (hln : 13 ≤ ln ∧ ln ≤ 14) (h : tW2 t) (hg : ∀ j, j < lnN ln → ¬ lnB ln v j) (hf : ¬ (lnAdds ln ∧ t (lnC ln) = lnM ln)) : tW2 (lnT ln v t) := by
  obtain ⟨h0, h1, hk, hm⟩ := h
  rcases (show ln = 13 ∨ ln = 14 by omega) with rfl | rfl
  · have hne : t 0 ≠ ((9 : Nat) : Int) := fun w => hf ⟨by unfold lnAdds; omega, w⟩
    obtain ⟨d, hd⟩ : ∃ d : Nat, t 0 = (d : Int) := ⟨(t 0).toNat, by omega⟩
    have ed : (t 0).toNat = d := by omega
    have g0 := lnG (lo := 0) (hi := 99) (hg 0 (by decide)) (by decide) (by decide)
    have g1 := lnG (lo := 0) (hi := 99) (hg 1 (by decide)) (by decide) (by decide)
    have g2 : v 0 ≤ v 1 := by
      have := hg 1 (by decide)
      unfold lnB at this
      omega
    show tW2 (tK t 0 2 2 9 v)
    have ne : ∀ j, j ≠ 0 → ¬ (2 + 2 * d ≤ j ∧ j < 2 + 2 * d + 2) → tK t 0 2 2 9 v j = t j := fun j w1 w2 => tK_old w1 (by rw [ed]; exact w2)
    have nw : ∀ r, r < 2 → tK t 0 2 2 9 v (2 + 2 * d + r) = v r := fun r hr => by
      have := @tK_new t 0 2 2 9 r v hne hr (by decide)
      rw [ed] at this
      exact this
    have nc : tK t 0 2 2 9 v 0 = t 0 + 1 := tK_c1 hne
    refine ⟨by rw [nc]; omega, by rw [ne 1 (by omega) (by omega)]; exact h1, fun k w => ?_, fun k w => by rw [ne (20 + 2 * k) (by omega) (by omega), ne (21 + 2 * k) (by omega) (by omega), ne 1 (by omega) (by omega)]; exact hm k w⟩
    by_cases e : k = d
    · subst e
      have n0 := nw 0 (by decide)
      have n1 := nw 1 (by decide)
      rw [Nat.add_zero] at n0
      rw [show 3 + 2 * k = 2 + 2 * k + 1 by omega, n0, n1]
      exact ⟨g0, g1, fun _ => g2⟩
    · have := hk k w
      rw [ne (2 + 2 * k) (by omega) (by omega), ne (3 + 2 * k) (by omega) (by omega), nc]
      exact ⟨this.1, this.2.1, fun w2 => this.2.2 (by omega)⟩
  · have hne : t 1 ≠ ((16 : Nat) : Int) := fun w => hf ⟨by unfold lnAdds; omega, w⟩
    obtain ⟨d, hd⟩ : ∃ d : Nat, t 1 = (d : Int) := ⟨(t 1).toNat, by omega⟩
    have ed : (t 1).toNat = d := by omega
    have g0 := lnG (lo := 0) (hi := 8) (hg 0 (by decide)) (by decide) (by decide)
    have g1 := lnG (lo := 0) (hi := 8) (hg 1 (by decide)) (by decide) (by decide)
    have g2 : v 0 ≠ v 1 := by
      have := hg 1 (by decide)
      unfold lnB at this
      omega
    show tW2 (tK t 1 20 2 16 v)
    have ne : ∀ j, j ≠ 1 → ¬ (20 + 2 * d ≤ j ∧ j < 20 + 2 * d + 2) → tK t 1 20 2 16 v j = t j := fun j w1 w2 => tK_old w1 (by rw [ed]; exact w2)
    have nw : ∀ r, r < 2 → tK t 1 20 2 16 v (20 + 2 * d + r) = v r := fun r hr => by
      have := @tK_new t 1 20 2 16 r v hne hr (by decide)
      rw [ed] at this
      exact this
    have nc : tK t 1 20 2 16 v 1 = t 1 + 1 := tK_c1 hne
    refine ⟨by rw [ne 0 (by omega) (by omega)]; exact h0, by rw [nc]; omega, fun k w => by rw [ne (2 + 2 * k) (by omega) (by omega), ne (3 + 2 * k) (by omega) (by omega), ne 0 (by omega) (by omega)]; exact hk k w, fun k w => ?_⟩
    by_cases e : k = d
    · subst e
      have n0 := nw 0 (by decide)
      have n1 := nw 1 (by decide)
      rw [Nat.add_zero] at n0
      rw [show 21 + 2 * k = 20 + 2 * k + 1 by omega, n0, n1]
      exact ⟨g0, g1, fun _ => g2⟩
    · have := hm k w
      rw [ne (20 + 2 * k) (by omega) (by omega), ne (21 + 2 * k) (by omega) (by omega), nc]
      exact ⟨this.1, this.2.1, fun w2 => this.2.2 (by omega)⟩
theorem lnT_W {of ln : Nat} {v t : Nat → Int} (hof : (of = 0 ∧ ln < 7) ∨ (of = 1 ∧ 7 ≤ ln ∧ ln ≤ 12) ∨ (of = 2 ∧ 13 ≤ ln ∧ ln ≤ 14)) (h : tWf of t) (hg : ∀ j, j < lnN ln → ¬ lnB ln v j) (hf : ¬ (lnAdds ln ∧ t (lnC ln) = lnM ln))   : tWf of (lnT ln v t) :=
  ⟨fun w => lnT_W0 (by omega) (h.1 w) hg hf, fun w => lnT_W1 (by omega) (h.2.1 w) hg hf, fun w => lnT_W2 (by omega) (h.2.2 w) hg hf⟩
