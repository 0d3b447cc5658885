section
/-! the class: a text is read -/
/-- the furthest cell, boat or saying that is told of -/
def dI (d o : Int) : Prop := ((decide (o = -1) && decide (0 ≤ d) && decide (d < 1)) || (decide (o = 0) && decide (1 ≤ d) && decide (d < 2)) || (decide (o = 1) && decide (2 ≤ d) && decide (d < 4)) || (decide (o = 2) && decide (4 ≤ d) && decide (d < 8)) || (decide (o = 3) && decide (8 ≤ d) && decide (d < 16)) || (decide (o = 4) && decide (16 ≤ d) && decide (d < 32)) || (decide (o = 5) && decide (32 ≤ d) && decide (d < 64))) = true
theorem dI_b {d o : Int} (h : dI d o) : 0 ≤ d ∧ d < 64 ∧ -1 ≤ o ∧ o ≤ 5 := by
  unfold dI at h
  simp only [Bool.or_eq_true, Bool.and_eq_true, decide_eq_true_eq] at h
  omega
theorem dI_shF : ∀ d : Fin 64, ∀ b : Fin 7, ∀ o : Fin 7, ((decide (((o.val : Int) - 1) = -1) && decide (0 ≤ (d.val : Int)) && decide ((d.val : Int) < 1)) || (decide (((o.val : Int) - 1) = 0) && decide (1 ≤ (d.val : Int)) && decide ((d.val : Int) < 2)) || (decide (((o.val : Int) - 1) = 1) && decide (2 ≤ (d.val : Int)) && decide ((d.val : Int) < 4)) || (decide (((o.val : Int) - 1) = 2) && decide (4 ≤ (d.val : Int)) && decide ((d.val : Int) < 8)) || (decide (((o.val : Int) - 1) = 3) && decide (8 ≤ (d.val : Int)) && decide ((d.val : Int) < 16)) || (decide (((o.val : Int) - 1) = 4) && decide (16 ≤ (d.val : Int)) && decide ((d.val : Int) < 32)) || (decide (((o.val : Int) - 1) = 5) && decide (32 ≤ (d.val : Int)) && decide ((d.val : Int) < 64))) = true → (yari 6 (d.val : Int) (b.val : Int) = 0 ↔ ((o.val : Int) - 1) < (b.val : Int)) := by decide +kernel
theorem dI_orF : ∀ d : Fin 64, ∀ v : Fin 6, ∀ o : Fin 7, ((decide (((o.val : Int) - 1) = -1) && decide (0 ≤ (d.val : Int)) && decide ((d.val : Int) < 1)) || (decide (((o.val : Int) - 1) = 0) && decide (1 ≤ (d.val : Int)) && decide ((d.val : Int) < 2)) || (decide (((o.val : Int) - 1) = 1) && decide (2 ≤ (d.val : Int)) && decide ((d.val : Int) < 4)) || (decide (((o.val : Int) - 1) = 2) && decide (4 ≤ (d.val : Int)) && decide ((d.val : Int) < 8)) || (decide (((o.val : Int) - 1) = 3) && decide (8 ≤ (d.val : Int)) && decide ((d.val : Int) < 16)) || (decide (((o.val : Int) - 1) = 4) && decide (16 ≤ (d.val : Int)) && decide ((d.val : Int) < 32)) || (decide (((o.val : Int) - 1) = 5) && decide (32 ≤ (d.val : Int)) && decide ((d.val : Int) < 64))) = true → ((decide ((max ((o.val : Int) - 1) (v.val : Int)) = -1) && decide (0 ≤ (yari 8 (d.val : Int) (yari 5 1 (v.val : Int)))) && decide ((yari 8 (d.val : Int) (yari 5 1 (v.val : Int))) < 1)) || (decide ((max ((o.val : Int) - 1) (v.val : Int)) = 0) && decide (1 ≤ (yari 8 (d.val : Int) (yari 5 1 (v.val : Int)))) && decide ((yari 8 (d.val : Int) (yari 5 1 (v.val : Int))) < 2)) || (decide ((max ((o.val : Int) - 1) (v.val : Int)) = 1) && decide (2 ≤ (yari 8 (d.val : Int) (yari 5 1 (v.val : Int)))) && decide ((yari 8 (d.val : Int) (yari 5 1 (v.val : Int))) < 4)) || (decide ((max ((o.val : Int) - 1) (v.val : Int)) = 2) && decide (4 ≤ (yari 8 (d.val : Int) (yari 5 1 (v.val : Int)))) && decide ((yari 8 (d.val : Int) (yari 5 1 (v.val : Int))) < 8)) || (decide ((max ((o.val : Int) - 1) (v.val : Int)) = 3) && decide (8 ≤ (yari 8 (d.val : Int) (yari 5 1 (v.val : Int)))) && decide ((yari 8 (d.val : Int) (yari 5 1 (v.val : Int))) < 16)) || (decide ((max ((o.val : Int) - 1) (v.val : Int)) = 4) && decide (16 ≤ (yari 8 (d.val : Int) (yari 5 1 (v.val : Int)))) && decide ((yari 8 (d.val : Int) (yari 5 1 (v.val : Int))) < 32)) || (decide ((max ((o.val : Int) - 1) (v.val : Int)) = 5) && decide (32 ≤ (yari 8 (d.val : Int) (yari 5 1 (v.val : Int)))) && decide ((yari 8 (d.val : Int) (yari 5 1 (v.val : Int))) < 64))) = true := by decide +kernel
theorem dI_sh {d o b : Int} (h : dI d o) (hb : 0 ≤ b ∧ b ≤ 6) : yari 6 d b = 0 ↔ o < b := by
  have hd := dI_b h
  have := dI_shF ⟨d.toNat, by omega⟩ ⟨b.toNat, by omega⟩ ⟨(o + 1).toNat, by omega⟩
  simp only at this
  rw [show ((d.toNat : Nat) : Int) = d by omega, show ((b.toNat : Nat) : Int) = b by omega, show (((o + 1).toNat : Nat) : Int) - 1 = o by omega] at this
  exact this h
theorem dI_or {d o v : Int} (h : dI d o) (hv : 0 ≤ v ∧ v ≤ 5) : dI (yari 8 d (yari 5 1 v)) (max o v) := by
  have hd := dI_b h
  have := dI_orF ⟨d.toNat, by omega⟩ ⟨v.toNat, by omega⟩ ⟨(o + 1).toNat, by omega⟩
  simp only at this
  rw [show ((d.toNat : Nat) : Int) = d by omega, show ((v.toNat : Nat) : Int) = v by omega, show (((o + 1).toNat : Nat) : Int) - 1 = o by omega] at this
  exact this h
def cM0 (t : Nat → Int) (c : Int) : Prop := c = -1 ∨ (∃ k : Nat, (k : Int) < t 5 ∧ t (19 + 3 * k) = c) ∨ ∃ k : Nat, (k : Int) < t 6 ∧ t (31 + 3 * k) = c
def cM2 (t : Nat → Int) (o : Int) : Prop := o = -1 ∨ ∃ k : Nat, (k : Int) < t 1 ∧ (t (20 + 2 * k) = o ∨ t (21 + 2 * k) = o)
def cI0 (t : Nat → Int) (c o : Int) : Prop := (∀ k : Nat, (k : Int) < t 5 → t (19 + 3 * k) ≤ c) ∧ (∀ k : Nat, (k : Int) < t 6 → t (31 + 3 * k) ≤ c) ∧ cM0 t c ∧ dI (t 49) o
def cI2 (t : Nat → Int) (o : Int) : Prop := (∀ k : Nat, (k : Int) < t 1 → t (20 + 2 * k) ≤ o ∧ t (21 + 2 * k) ≤ o) ∧ cM2 t o
def cI (of : Nat) (t : Nat → Int) (c o : Int) : Prop := (of = 0 → cI0 t c o) ∧ (of = 2 → cI2 t o)
theorem tU_cI {t : Nat → Int} {c o : Int} {j : Nat} {x : Int} (h : cI0 t c o) (hj : j < 5 ∨ (7 ≤ j ∧ j < 19)) : cI0 (tU t j x) c o := by
  obtain ⟨a1, a2, a3, a4⟩ := h
  have e : ∀ i, i = 5 ∨ i = 6 ∨ 19 ≤ i → tU t j x i = t i := fun i w => tU_ne (by omega)
  refine ⟨fun k hk => ?_, fun k hk => ?_, ?_, ?_⟩
  · rw [e 5 (by omega)] at hk; rw [e _ (by omega)]; exact a1 k hk
  · rw [e 6 (by omega)] at hk; rw [e _ (by omega)]; exact a2 k hk
  · rcases a3 with w | ⟨k, k1, k2⟩ | ⟨k, k1, k2⟩
    · exact Or.inl w
    · exact Or.inr (Or.inl ⟨k, by rw [e 5 (by omega)]; exact k1, by rw [e _ (by omega)]; exact k2⟩)
    · exact Or.inr (Or.inr ⟨k, by rw [e 6 (by omega)]; exact k1, by rw [e _ (by omega)]; exact k2⟩)
  · rw [e 49 (by omega)]; exact a4
theorem cI_T {of ln : Nat} {v t : Nat → Int} {c o : Int} (hof : of ≤ 2) (hi : lnIn of ln) (h : cI of t c o) (hW : tWf of t) (hg : ∀ j, j < lnN ln → ¬ lnB ln v j) (hM : ¬ (lnAdds ln ∧ t (lnC ln) = lnM ln)) : cI of (lnT ln v t) (lnFc ln v c) (lnFo ln v o) := by
  obtain ⟨n0, n1, n2, n3, n4, n5, n6, n13, n14⟩ := lnN_v
  rcases lnIn_j hof hi with ⟨rfl, hl⟩ | ⟨rfl, hl⟩ | ⟨rfl, hl⟩
  · refine ⟨fun _ => ?_, fun e => absurd e (by decide)⟩
    have h0 := h.1 rfl
    have hw := hW.1 rfl
    have w5 : 0 ≤ t 5 ∧ t 5 ≤ 4 := hw.2.2.2.2.2.1
    have w6 : 0 ≤ t 6 ∧ t 6 ≤ 6 := hw.2.2.2.2.2.2.1
    rcases (show ln = 0 ∨ ln = 1 ∨ ln = 2 ∨ ln = 3 ∨ ln = 4 ∨ ln = 5 ∨ ln = 6 by omega) with rfl | rfl | rfl | rfl | rfl | rfl | rfl
    · exact tU_cI (tU_cI h0 (by omega)) (by omega)
    · exact tU_cI (tU_cI h0 (by omega)) (by omega)
    · exact tU_cI h0 (by omega)
    · have b0 := lnG (hg 0 (by omega)) (lo := 0) (hi := 2) (by decide +kernel) (by decide +kernel)
      exact tU_cI (tU_cI (tU_cI (tU_cI h0 (by omega)) (by omega)) (by omega)) (by omega)
    · have hM4 : t 5 ≠ 4 := fun e => hM ⟨Or.inl rfl, e⟩
      have et : lnT 4 v t = tK t 5 19 3 4 v := rfl
      have ec : lnFc 4 v c = max c (v 0) := rfl
      have eo : lnFo 4 v o = o := rfl
      rw [et, ec, eo]
      have e5 : tK t 5 19 3 4 v 5 = t 5 + 1 := tK_c1 hM4
      have en : tK t 5 19 3 4 v (19 + 3 * (t 5).toNat) = v 0 := tK_new (r := 0) hM4 (by decide) (by decide)
      have e : ∀ i, ¬ (i = 5 ∨ (19 + 3 * (t 5).toNat ≤ i ∧ i < 22 + 3 * (t 5).toNat)) → tK t 5 19 3 4 v i = t i := fun i w => tK_old (by omega) (by omega)
      obtain ⟨a1, a2, a3, a4⟩ := h0
      refine ⟨fun k hk => ?_, fun k hk => ?_, ?_, ?_⟩
      · rw [e5] at hk
        by_cases w : (k : Int) = t 5
        · obtain rfl : k = (t 5).toNat := by omega
          rw [en]; omega
        · rw [e _ (by omega)]
          have := a1 k (by omega)
          omega
      · rw [e 6 (by omega)] at hk
        rw [e _ (by omega)]
        have := a2 k hk
        omega
      · by_cases w : v 0 ≤ c
        · rw [Int.max_eq_left w]; unfold cM0; rw [e5, e 6 (by omega)]
          rcases a3 with w | ⟨k, k1, k2⟩ | ⟨k, k1, k2⟩
          · exact Or.inl w
          · exact Or.inr (Or.inl ⟨k, by omega, by rw [e _ (by omega)]; exact k2⟩)
          · exact Or.inr (Or.inr ⟨k, k1, by rw [e _ (by omega)]; exact k2⟩)
        · rw [Int.max_eq_right (by omega)]; unfold cM0; rw [e5]
          exact Or.inr (Or.inl ⟨(t 5).toNat, by omega, en⟩)
      · rw [e 49 (by omega)]; exact a4
    · have hM5 : t 6 ≠ 6 := fun e => hM ⟨Or.inr (Or.inl rfl), e⟩
      have et : lnT 5 v t = tK t 6 31 3 6 v := rfl
      have ec : lnFc 5 v c = max c (v 0) := rfl
      have eo : lnFo 5 v o = o := rfl
      rw [et, ec, eo]
      have e6 : tK t 6 31 3 6 v 6 = t 6 + 1 := tK_c1 hM5
      have en : tK t 6 31 3 6 v (31 + 3 * (t 6).toNat) = v 0 := tK_new (r := 0) hM5 (by decide) (by decide)
      have e : ∀ i, ¬ (i = 6 ∨ (31 + 3 * (t 6).toNat ≤ i ∧ i < 34 + 3 * (t 6).toNat)) → tK t 6 31 3 6 v i = t i := fun i w => tK_old (by omega) (by omega)
      obtain ⟨a1, a2, a3, a4⟩ := h0
      refine ⟨fun k hk => ?_, fun k hk => ?_, ?_, ?_⟩
      · rw [e 5 (by omega)] at hk
        rw [e _ (by omega)]
        have := a1 k hk
        omega
      · rw [e6] at hk
        by_cases w : (k : Int) = t 6
        · obtain rfl : k = (t 6).toNat := by omega
          rw [en]; omega
        · rw [e _ (by omega)]
          have := a2 k (by omega)
          omega
      · by_cases w : v 0 ≤ c
        · rw [Int.max_eq_left w]; unfold cM0; rw [e6, e 5 (by omega)]
          rcases a3 with w | ⟨k, k1, k2⟩ | ⟨k, k1, k2⟩
          · exact Or.inl w
          · exact Or.inr (Or.inl ⟨k, k1, by rw [e _ (by omega)]; exact k2⟩)
          · exact Or.inr (Or.inr ⟨k, by omega, by rw [e _ (by omega)]; exact k2⟩)
        · rw [Int.max_eq_right (by omega)]; unfold cM0; rw [e6]
          exact Or.inr (Or.inr ⟨(t 6).toNat, by omega, en⟩)
      · rw [e 49 (by omega)]; exact a4
    · have b0 := lnG (hg 0 (by omega)) (lo := 0) (hi := 5) (by decide +kernel) (by decide +kernel)
      have et : lnT 6 v t = tU t 49 (yari 8 (t 49) (yari 5 1 (v 0))) := rfl
      have ec : lnFc 6 v c = c := rfl
      have eo : lnFo 6 v o = max o (v 0) := rfl
      rw [et, ec, eo]
      have e : ∀ i, i ≠ 49 → tU t 49 (yari 8 (t 49) (yari 5 1 (v 0))) i = t i := fun i w => tU_ne w
      obtain ⟨a1, a2, a3, a4⟩ := h0
      refine ⟨fun k hk => ?_, fun k hk => ?_, ?_, ?_⟩
      · rw [e 5 (by omega)] at hk; rw [e _ (by omega)]; exact a1 k hk
      · rw [e 6 (by omega)] at hk; rw [e _ (by omega)]; exact a2 k hk
      · unfold cM0
        rw [e 5 (by omega), e 6 (by omega)]
        rcases a3 with w | ⟨k, k1, k2⟩ | ⟨k, k1, k2⟩
        · exact Or.inl w
        · exact Or.inr (Or.inl ⟨k, k1, by rw [e _ (by omega)]; exact k2⟩)
        · exact Or.inr (Or.inr ⟨k, k1, by rw [e _ (by omega)]; exact k2⟩)
      · rw [tU_at]
        exact dI_or a4 b0
  · exact ⟨fun e => absurd e (by decide), fun e => absurd e (by decide)⟩
  · refine ⟨fun e => absurd e (by decide), fun _ => ?_⟩
    have h0 := h.2 rfl
    have hw := hW.2.2 rfl
    have w0 : 0 ≤ t 0 ∧ t 0 ≤ 9 := hw.1
    have w1 : 0 ≤ t 1 ∧ t 1 ≤ 16 := hw.2.1
    obtain ⟨a1, a2⟩ := h0
    rcases (show ln = 13 ∨ ln = 14 by omega) with rfl | rfl
    · have hM3 : t 0 ≠ 9 := fun e => hM ⟨Or.inr (Or.inr (by decide)), e⟩
      have et : lnT 13 v t = tK t 0 2 2 9 v := rfl
      have eo : lnFo 13 v o = o := rfl
      rw [et, eo]
      have e : ∀ i, ¬ (i = 0 ∨ (2 + 2 * (t 0).toNat ≤ i ∧ i < 4 + 2 * (t 0).toNat)) → tK t 0 2 2 9 v i = t i := fun i w => tK_old (by omega) (by omega)
      have hm : t 0 < 9 := by omega
      refine ⟨fun k hk => ?_, ?_⟩
      · rw [e 1 (by omega)] at hk
        rw [e _ (by omega), e _ (by omega)]
        exact a1 k hk
      · rcases a2 with w | ⟨k, k1, k2⟩
        · exact Or.inl w
        · exact Or.inr ⟨k, by rw [e 1 (by omega)]; exact k1, by rw [e _ (by omega), e _ (by omega)]; exact k2⟩
    · have hM3 : t 1 ≠ 16 := fun e => hM ⟨Or.inr (Or.inr (by decide)), e⟩
      have et : lnT 14 v t = tK t 1 20 2 16 v := rfl
      have eo : lnFo 14 v o = max o (max (v 0) (v 1)) := rfl
      rw [et, eo]
      have e1 : tK t 1 20 2 16 v 1 = t 1 + 1 := tK_c1 hM3
      have en0 : tK t 1 20 2 16 v (20 + 2 * (t 1).toNat) = v 0 := tK_new (r := 0) hM3 (by decide) (by decide)
      have en1 : tK t 1 20 2 16 v (20 + 2 * (t 1).toNat + 1) = v 1 := tK_new (r := 1) hM3 (by decide) (by decide)
      rw [show 20 + 2 * (t 1).toNat + 1 = 21 + 2 * (t 1).toNat by omega] at en1
      have e : ∀ i, ¬ (i = 1 ∨ (20 + 2 * (t 1).toNat ≤ i ∧ i < 22 + 2 * (t 1).toNat)) → tK t 1 20 2 16 v i = t i := fun i w => tK_old (by omega) (by omega)
      refine ⟨fun k hk => ?_, ?_⟩
      · rw [e1] at hk
        by_cases w : (k : Int) = t 1
        · obtain rfl : k = (t 1).toNat := by omega
          rw [en0, en1]; omega
        · rw [e _ (by omega), e _ (by omega)]
          have := a1 k (by omega)
          omega
      · by_cases w : max (v 0) (v 1) ≤ o
        · rw [Int.max_eq_left w]; unfold cM2; rw [e1]
          rcases a2 with w | ⟨k, k1, k2⟩
          · exact Or.inl w
          · exact Or.inr ⟨k, by omega, by rw [e _ (by omega), e _ (by omega)]; exact k2⟩
        · rw [Int.max_eq_right (by omega)]; unfold cM2; rw [e1]
          refine Or.inr ⟨(t 1).toNat, by omega, ?_⟩
          rw [en0, en1]
          omega
/-! whole or not -/
theorem mul_b {a b : Int} (ha : 2 ≤ a ∧ a ≤ 8) (hb : 2 ≤ b ∧ b ≤ 8) : 4 ≤ a * b ∧ a * b ≤ 64 := by
  rcases (show a = 2 ∨ a = 3 ∨ a = 4 ∨ a = 5 ∨ a = 6 ∨ a = 7 ∨ a = 8 by omega) with rfl | rfl | rfl | rfl | rfl | rfl | rfl <;> omega
theorem cell_e {n : Nat} {t : Nat → Int} {x : Int} {h : yH} (hS : cS 90 t h) (hW : tW0 t) (hx : 0 ≤ x) : f_X6_hasCell n [90, x] h = some (if x < t 0 * t 1 then 1 else 0, h) := by
  have hm := mul_b hW.1 hW.2.1
  rw [e_X6_hasCell, if_neg (by omega), e_X6_cells, hS.1, hS.2.1, xg_pos (by omega), xb_some]
  by_cases w : x < t 0 * t 1
  · rw [if_pos w, if_pos w]
  · rw [if_neg w, if_neg w]
theorem whole_b {t : Nat → Int} {h : yH} (hP : cP h) (hS : cS 90 t h) (hW : tW0 t) : ∀ (m k n : Nat), 7 - k = m → m < n → k ≤ 6 → ∃ w, xl_X6_isWhole n 33 [90, (k : Int)] h = some (w, h) ∧ (w ≠ 0 ↔ (∀ j : Nat, k ≤ j → (j : Int) < t 6 → t (31 + 3 * j) < t 0 * t 1) ∧ yari 6 (t 49) (t 6) = 0) := by
  have w6 : 0 ≤ t 6 ∧ t 6 ≤ 6 := hW.2.2.2.2.2.2.1
  intro m
  induction m with
  | zero => intro k n h1 h2 h3; omega
  | succ m ih =>
    intro k n h1 h2 h3
    obtain ⟨n, rfl⟩ : ∃ n', n = n' + 1 := ⟨n - 1, by omega⟩
    obtain ⟨a0, a1, a2, a3, a4, a5, a6, a7, a8, a9, a10⟩ := hS
    have hS : cS 90 t h := ⟨a0, a1, a2, a3, a4, a5, a6, a7, a8, a9, a10⟩
    rw [e_X6_isWhole_33, a6]
    by_cases hk : (k : Int) < t 6
    · have c0 := (a10 k hk).1
      have c1 := (hW.2.2.2.2.2.2.2.2.2.2 k (by omega)).1
      have c0' : h 95 k = t (31 + 3 * k) := c0
      rw [if_pos hk, xg_pos (hP.p (by decide)), xg_pos (by omega), Int.toNat_natCast, c0', cell_e hS hW (by omega), xb_some]
      by_cases w : t (31 + 3 * k) < t 0 * t 1
      · rw [if_pos w, if_neg (by decide), xg_pos (by omega)]
        obtain ⟨v, g1, g2⟩ := ih (k + 1) n (by omega) (by omega) (by omega)
        refine ⟨v, g1, g2.trans ⟨fun q => ⟨fun j hj hj2 => ?_, q.2⟩, fun q => ⟨fun j hj hj2 => q.1 j (by omega) hj2, q.2⟩⟩⟩
        by_cases e : j = k
        · rw [e]; exact w
        · exact q.1 j (by omega) hj2
      · rw [if_neg w, if_pos rfl]
        exact ⟨0, rfl, fun q => absurd rfl q, fun q => absurd (q.1 k (by omega) hk) w⟩
    · rw [if_neg hk, a7]
      by_cases w : yari 6 (t 49) (t 6) = 0
      · rw [if_pos w]
        exact ⟨1, rfl, fun _ => ⟨fun j hj hj2 => by omega, w⟩, fun _ => by decide⟩
      · rw [if_neg w]
        exact ⟨0, rfl, fun q => absurd rfl q, fun q => absurd q.2 w⟩
theorem whole_s {t : Nat → Int} {h : yH} (hP : cP h) (hS : cS 90 t h) (hW : tW0 t) : ∀ (m k n : Nat), 5 - k = m → m + 10 < n → k ≤ 4 → ∃ w, xl_X6_isWhole n 2 [90, (k : Int)] h = some (w, h) ∧ (w ≠ 0 ↔ (∀ j : Nat, k ≤ j → (j : Int) < t 5 → t (19 + 3 * j) < t 0 * t 1) ∧ (∀ j : Nat, (j : Int) < t 6 → t (31 + 3 * j) < t 0 * t 1) ∧ yari 6 (t 49) (t 6) = 0) := by
  have w5 : 0 ≤ t 5 ∧ t 5 ≤ 4 := hW.2.2.2.2.2.1
  intro m
  induction m with
  | zero => intro k n h1 h2 h3; omega
  | succ m ih =>
    intro k n h1 h2 h3
    obtain ⟨n, rfl⟩ : ∃ n', n = n' + 1 := ⟨n - 1, by omega⟩
    obtain ⟨a0, a1, a2, a3, a4, a5, a6, a7, a8, a9, a10⟩ := hS
    have hS : cS 90 t h := ⟨a0, a1, a2, a3, a4, a5, a6, a7, a8, a9, a10⟩
    rw [e_X6_isWhole_2, a5]
    by_cases hk : (k : Int) < t 5
    · have c0 := (a9 k hk).1
      have c1 := (hW.2.2.2.2.2.2.2.2.2.1 k (by omega)).1
      have c0' : h 92 k = t (19 + 3 * k) := c0
      rw [if_pos hk, xg_pos (hP.p (by decide)), xg_pos (by omega), Int.toNat_natCast, c0', cell_e hS hW (by omega), xb_some]
      by_cases w : t (19 + 3 * k) < t 0 * t 1
      · rw [if_pos w, if_neg (by decide), xg_pos (by omega)]
        obtain ⟨v, g1, g2⟩ := ih (k + 1) n (by omega) (by omega) (by omega)
        refine ⟨v, g1, g2.trans ⟨fun q => ⟨fun j hj hj2 => ?_, q.2⟩, fun q => ⟨fun j hj hj2 => q.1 j (by omega) hj2, q.2⟩⟩⟩
        by_cases e : j = k
        · rw [e]; exact w
        · exact q.1 j (by omega) hj2
      · rw [if_neg w, if_pos rfl]
        exact ⟨0, rfl, fun q => absurd rfl q, fun q => absurd (q.1 k (by omega) hk) w⟩
    · rw [if_neg hk]
      obtain ⟨v, g1, g2⟩ := whole_b hP hS hW 7 0 n rfl (by omega) (by omega)
      exact ⟨v, g1, g2.trans ⟨fun q => ⟨fun j hj hj2 => by omega, fun j hj => q.1 j (by omega) hj, q.2⟩, fun q => ⟨fun j _ hj => q.2.1 j hj, q.2.2⟩⟩⟩
theorem whole_d {t : Nat → Int} {h : yH} (hP : cP h) (hS : cQ 110 t h) (hW : tW2 t) : ∀ (m k n : Nat), 17 - k = m → m < n → k ≤ 16 → ∃ w, xl_X2_isWhole n 2 [110, (k : Int)] h = some (w, h) ∧ (w = 0 ∨ w = 1) ∧ (w ≠ 0 ↔ (∀ j : Nat, k ≤ j → (j : Int) < t 1 → t (20 + 2 * j) < t 0 ∧ t (21 + 2 * j) < t 0) ∧ 0 < t 0) := by
  have w1 : 0 ≤ t 1 ∧ t 1 ≤ 16 := hW.2.1
  intro m
  induction m with
  | zero => intro k n h1 h2 h3; omega
  | succ m ih =>
    intro k n h1 h2 h3
    obtain ⟨n, rfl⟩ : ∃ n', n = n' + 1 := ⟨n - 1, by omega⟩
    obtain ⟨a0, a1, a2, a3⟩ := hS
    have hS : cQ 110 t h := ⟨a0, a1, a2, a3⟩
    rw [e_X2_isWhole_2, a1, a0]
    by_cases hk : (k : Int) < t 1
    · obtain ⟨c0, c1⟩ := a3 k hk
      have c0' : h 113 k = t (20 + 2 * k) := c0
      have c1' : h 114 k = t (21 + 2 * k) := c1
      rw [if_pos hk, xg_pos (hP.p (by decide)), xg_pos (by omega), Int.toNat_natCast, c0']
      by_cases w : t (20 + 2 * k) < t 0
      · rw [if_pos w, xg_pos (hP.p (by decide)), xg_pos (by omega), c1']
        by_cases w2 : t (21 + 2 * k) < t 0
        · rw [if_pos w2, xg_pos (by omega)]
          obtain ⟨v, g1, g0, g2⟩ := ih (k + 1) n (by omega) (by omega) (by omega)
          refine ⟨v, g1, g0, g2.trans ⟨fun q => ⟨fun j hj hj2 => ?_, q.2⟩, fun q => ⟨fun j hj hj2 => q.1 j (by omega) hj2, q.2⟩⟩⟩
          by_cases e : j = k
          · rw [e]; exact ⟨w, w2⟩
          · exact q.1 j (by omega) hj2
        · rw [if_neg w2]
          exact ⟨0, rfl, Or.inl rfl, fun q => absurd rfl q, fun q => absurd (q.1 k (by omega) hk).2 w2⟩
      · rw [if_neg w]
        exact ⟨0, rfl, Or.inl rfl, fun q => absurd rfl q, fun q => absurd (q.1 k (by omega) hk).1 w⟩
    · rw [if_neg hk]
      by_cases w : 0 < t 0
      · rw [if_pos w]
        exact ⟨1, rfl, Or.inr rfl, fun _ => ⟨fun j hj hj2 => by omega, w⟩, fun _ => by decide⟩
      · rw [if_neg w]
        exact ⟨0, rfl, Or.inl rfl, fun q => absurd rfl q, fun q => absurd q.2 w⟩
/-- the end of read(): what is not whole is noted -/
theorem end_e {u : Nat → Int} {N n of : Nat} {x3 x4 : Int} {q : Int × Int} {t : Nat → Int} {g : yH} (hof : of ≤ 2) (hc : cC u N g) (hH : cH of q t g) (hn : 40 ≤ n) : ∃ X : Prop, xq_X4_read_66 n (xl_X4_read n) [80, 4, (of : Int), x3, x4] g = some (0, cN (@nt q X (Classical.propDecidable _) 4 (N : Int)) g) ∧ ∀ c o, q.1 = 0 → cI of t c o → (X ↔ lnX of t c o) := by
  obtain ⟨e3, e4, t2, er, ew, et⟩ := hH
  have eg : cN q g = g := cN_self e3 e4
  have hP := hc.2.2.2
  have note0 : ∀ (X : Prop) (w : X), f_X4_note n [80, 4, (N : Int)] g = some (0, cN (@nt q X (Classical.propDecidable _) 4 (N : Int)) g) := fun X w => by
    have := @note_e n q 4 (N : Int) X (Classical.propDecidable _) g (by decide) w
    rw [eg] at this
    exact this
  have non0 : ∀ (X : Prop) (w : ¬ X), some ((0 : Int), g) = some (0, cN (@nt q X (Classical.propDecidable _) 4 (N : Int)) g) := fun X w => by
    rw [ntf w, eg]
  rw [e_X4_read_66]
  rcases (show of = 0 ∨ of = 1 ∨ of = 2 by omega) with rfl | rfl | rfl
  · have hS := er.1 rfl
    have hw := ew.1 rfl
    obtain ⟨v, g1, g2⟩ := whole_s hP hS hw 5 0 n rfl (by omega) (by omega)
    rw [if_pos (by decide), xg_pos (hP.p (by decide)), e_X6_isWhole]
    have g1' : xl_X6_isWhole n 2 [90, 0] g = some (v, g) := g1
    rw [g1', xb_some, hc.1]
    have hX : ∀ c o, q.1 = 0 → cI 0 t c o → (v = 0 ↔ lnX 0 t c o) := by
      intro c o hq hI
      have ett := et hq
      subst ett
      obtain ⟨a1, a2, a3, a4⟩ := hI.1 rfl
      have hm := mul_b hw.1 hw.2.1
      have w6 : 0 ≤ t2 6 ∧ t2 6 ≤ 6 := hw.2.2.2.2.2.2.1
      have hsh := dI_sh a4 w6
      have g3 : v = 0 ↔ ¬ ((∀ j : Nat, 0 ≤ j → (j : Int) < t2 5 → t2 (19 + 3 * j) < t2 0 * t2 1) ∧ (∀ j : Nat, (j : Int) < t2 6 → t2 (31 + 3 * j) < t2 0 * t2 1) ∧ yari 6 (t2 49) (t2 6) = 0) := ⟨fun e w => absurd e (g2.mpr w), fun w => Classical.byContradiction (fun w2 => w (g2.mp w2))⟩
      rw [g3]
      unfold lnX
      constructor
      · intro w
        refine Or.inl ⟨rfl, ?_⟩
        by_cases c1 : t2 0 * t2 1 ≤ c
        · exact Or.inl c1
        · refine Or.inr (Classical.byContradiction (fun c2 => w ⟨fun j _ hj => ?_, fun j hj => ?_, hsh.mpr (by omega)⟩))
          · have := a1 j hj; omega
          · have := a2 j hj; omega
      · intro w ⟨q1, q2, q3⟩
        rcases w with ⟨-, w | w⟩ | ⟨w, -⟩
        · rcases a3 with e | ⟨k, k1, k2⟩ | ⟨k, k1, k2⟩
          · omega
          · have := q1 k (by omega) k1; omega
          · have := q2 k k1; omega
        · have := hsh.mp q3; omega
        · cases w
    by_cases hv : v = 0
    · rw [if_pos hv, note0 True trivial, xb_some]
      exact ⟨True, rfl, fun c o hq hI => ⟨fun _ => (hX c o hq hI).mp hv, fun _ => trivial⟩⟩
    · rw [if_neg hv, non0 False (fun w => w)]
      exact ⟨False, rfl, fun c o hq hI => ⟨fun w => w.elim, fun w => hv ((hX c o hq hI).mpr w)⟩⟩
  · rw [if_neg (by decide), if_pos (by decide), if_neg (by decide), non0 False (fun w => w)]
    exact ⟨False, rfl, fun c o hq hI => ⟨fun w => w.elim, fun w => by unfold lnX at w; omega⟩⟩
  · have hS := er.2.2 rfl
    have hw := ew.2.2 rfl
    obtain ⟨v, g1, g0, g2⟩ := whole_d hP hS hw 17 0 n rfl (by omega) (by omega)
    rw [if_neg (by decide), if_neg (by decide), xg_pos (hP.p (by decide)), e_X2_isWhole]
    have g1' : xl_X2_isWhole n 2 [110, 0] g = some (v, g) := g1
    rw [g1', xb_some, hc.1]
    have hX : ∀ c o, q.1 = 0 → cI 2 t c o → (v = 0 ↔ lnX 2 t c o) := by
      intro c o hq hI
      have ett := et hq
      subst ett
      obtain ⟨a1, a2⟩ := hI.2 rfl
      have w0 : 0 ≤ t2 0 ∧ t2 0 ≤ 9 := hw.1
      have g3 : v = 0 ↔ ¬ ((∀ j : Nat, 0 ≤ j → (j : Int) < t2 1 → t2 (20 + 2 * j) < t2 0 ∧ t2 (21 + 2 * j) < t2 0) ∧ 0 < t2 0) := ⟨fun e w => absurd e (g2.mpr w), fun w => Classical.byContradiction (fun w2 => w (g2.mp w2))⟩
      rw [g3]
      unfold lnX
      constructor
      · intro w
        refine Or.inr ⟨rfl, ?_⟩
        by_cases c1 : t2 0 = 0
        · exact Or.inl c1
        · refine Or.inr (Classical.byContradiction (fun c2 => w ⟨fun j _ hj => ?_, by omega⟩))
          have := a1 j hj; omega
      · intro w ⟨q1, q2⟩
        rcases w with ⟨w, -⟩ | ⟨-, w | w⟩
        · cases w
        · omega
        · rcases a2 with e | ⟨k, k1, k2⟩
          · omega
          · have := q1 k (by omega) k1; omega
    by_cases hv : v = 0
    · rw [if_pos hv, if_pos rfl, note0 True trivial, xb_some]
      exact ⟨True, rfl, fun c o hq hI => ⟨fun _ => (hX c o hq hI).mp hv, fun _ => trivial⟩⟩
    · rw [if_neg hv, if_neg (by decide), non0 False (fun w => w)]
      exact ⟨False, rfl, fun c o hq hI => ⟨fun w => w.elim, fun w => hv ((hX c o hq hI).mpr w)⟩⟩
end
section
/-! the class: read() -/
theorem tkS_le {u : Nat → Int} {N x : Nat} : x ≤ tkS u N x := tGo_le
theorem tkN_le {u : Nat → Int} {N x : Nat} : ∀ i, x ≤ tkN u N x i := by
  intro i
  induction i with
  | zero => exact Nat.le_refl _
  | succ i ih => exact Nat.le_trans ih (Nat.le_trans tkS_le tkS_E)
theorem tkK_0 {u : Nat → Int} {N x : Nat} (hx : x ≤ N) : tkK u N x = 0 ↔ tkS u N x = N := by
  have hs : tkS u N x ≤ N := tkS_n hx
  unfold tkK
  by_cases h : N ≤ tkS u N x
  · rw [if_pos h]
    exact ⟨fun _ => by omega, fun _ => rfl⟩
  · rw [if_neg h]
    refine ⟨fun w => ?_, fun w => by omega⟩
    split at w
    · cases w
    · split at w
      · split at w <;> cases w
      · split at w <;> cases w
theorem tc_0 {k : Nat} (hk : k ≤ 4) : tc k = 0 ↔ k = 0 := by
  unfold tc
  split
  · omega
  · split <;> omega
theorem tc_1 {k : Nat} (hk : k ≤ 4) : tc k = 1 ↔ k = 2 := by
  unfold tc
  split
  · omega
  · split <;> omega
theorem brk_e {u : Nat → Int} {N n of : Nat} {x4 : Int} {q : Int × Int} {t : Nat → Int} {g : yH} (hof : of ≤ 2) (hc : cC u N g) (hH : cH of q t g) (hq : q.1 ≠ 0) (hn : 41 ≤ n) : xl_X4_read n 41 [80, 4, (of : Int), 0, x4] g = some (0, g) := by
  obtain ⟨n, rfl⟩ : ∃ n', n = n' + 1 := ⟨n - 1, by omega⟩
  rw [e_X4_read_41, if_pos rfl]
  obtain ⟨X, g1, -⟩ := end_e (n := n) (x3 := 0) (x4 := x4) hof hc hH (by omega)
  rw [g1, ntn hq, cN_self hH.1 hH.2.1]
set_option maxHeartbeats 1000000 in
theorem read_l {u : Nat → Int} {N of : Nat} (hof : of ≤ 2) : ∀ (m l x n : Nat) (q : Int × Int) (h : yH) (t : Nat → Int) (c o : Int), N - x < m → m + 2000 ≤ n → x ≤ N → l ≤ x → cC u N h → h 80 9 = (x : Int) → cH of q t h → (q.1 = 0 → cI of t c o) →
    ∃ h2, xl_X4_read n 41 [80, 4, (of : Int), 1, (l : Int)] h = some (0, h2) ∧ cC u N h2 ∧ cX h h2 ∧ cH of (pRd u N of m x q t c o).1 (pRd u N of m x q t c o).2 h2 := by
  intro m
  induction m with
  | zero => intro l x n q h t c o e1; omega
  | succ m ih =>
    intro l x n q h t c o e1 e2 hx hl hc h9 hH hI
    obtain ⟨n, rfl⟩ : ∃ n', n = n' + 1 := ⟨n - 1, by omega⟩
    have hN := hc.2.1
    rw [e_X4_read_41, if_neg (by decide), if_neg (by omega), e_X4_readLine, nextToken_e hc h9 hx (by omega), xb_some, cTk_7, cTk_8]
    have hc1 := cTk_C (x := x) hc
    have hH1 := cTk_H (u := u) (N := N) (x := x) hH
    have hX1 : cX h (cTk u N x h) := fun a j w => cTk_ne (by omega)
    have h18 : cTk u N x h 80 8 = (tkS u N x : Int) := cTk_8
    have h19 : cTk u N x h 80 9 = (tkE u N x : Int) := cTk_9
    generalize cTk u N x h = g at *
    simp only [pRd]
    by_cases hK0 : tkK u N x = 0
    · rw [if_pos ((tc_0 tkK_4).mpr hK0), xb_some, xg_pos (by omega), if_pos hK0]
      obtain ⟨n, rfl⟩ : ∃ n', n = n' + 1 := ⟨n - 1, by omega⟩
      rw [e_X4_read_41, if_pos rfl]
      obtain ⟨X, g1, g2⟩ := end_e (n := n) (x3 := 0) (x4 := (l : Int) + 1) hof hc1 hH1 (by omega)
      have hS : tkS u N x = N := (tkK_0 hx).mp hK0
      have eQ : @nt q X (Classical.propDecidable _) 4 (N : Int) = @nt q (lnX of t c o) (Classical.propDecidable _) 4 (tkS u N x : Nat) := by
        rw [hS]
        by_cases hq : q.1 = 0
        · exact nt_iff (g2 c o hq (hI hq))
        · rw [ntn hq, ntn hq]
      rw [g1, eQ]
      refine ⟨_, rfl, cN_C hc1, fun a j w => by rw [cN_ne (by omega)]; exact hX1 a j w, ?_⟩
      obtain ⟨e3, e4, t2, er, ew, et⟩ := hH1
      refine ⟨cN_3, cN_4, t2, er.fr (fun a j _ _ => cN_ne (by omega)), ew, fun w => et ?_⟩
      by_cases hq : q.1 = 0
      · exact hq
      · simp only at w
        rw [ntn hq] at w
        exact w
    · rw [if_neg (fun w => hK0 ((tc_0 tkK_4).mp w)), if_neg hK0]
      by_cases h15 : lnAt u N of x = 15
      · rw [if_pos h15]
        have hb : cH of (1, (tkS u N x : Nat)) t (cN (1, (tkS u N x : Int)) g) := cN_H hH1 (show (1 : Int) ≠ 0 by decide)
        have hcb : cC u N (cN (1, (tkS u N x : Int)) g) := cN_C hc1
        have fin : xl_X4_read n 41 [80, 4, (of : Int), 0, (l : Int) + 1] (cN (1, (tkS u N x : Int)) g) = some (0, cN (1, (tkS u N x : Int)) g) := brk_e hof hcb hb (show (1 : Int) ≠ 0 by decide) (by omega)
        refine ⟨cN (1, (tkS u N x : Int)) g, ?_, hcb, fun a j w => by rw [cN_ne (by omega)]; exact hX1 a j w, hb⟩
        by_cases hk2 : tkK u N x = 2
        · rw [if_pos ((tc_1 tkK_4).mpr hk2), lineOf_e hof hc1 h18 h19 hk2 hx (by omega), xb_some, if_pos h15, if_pos rfl, break_e, xb_some, xg_pos (by decide), xb_some, xg_pos (by omega), h18]
          exact fin
        · rw [if_neg (fun w => hk2 ((tc_1 tkK_4).mp w)), if_pos trivial, break_e, xb_some, xg_pos (by decide), xb_some, xg_pos (by omega), h18]
          exact fin
      · rw [if_neg h15]
        obtain ⟨hk2, hi, hwe⟩ := lnAt_p h15
        have hln : lnAt u N of x < 15 := by have := lnIn_j hof hi; omega
        rw [if_pos ((tc_1 tkK_4).mpr hk2), lineOf_e hof hc1 h18 h19 hk2 hx (by omega), xb_some, if_neg h15, if_neg (by omega)]
        generalize lnAt u N of x = ln at *
        have hb5 := (lnN_b ⟨ln, hln⟩).2
        simp only at hb5
        obtain ⟨v, h2, r1, r2, r3, r4⟩ := line_l (q := q) (t := t) hof hi hln hx (lnN ln) 0 n g rfl (by omega) (by omega) hc1 h19 hH1 (fun j hj => by omega)
        have r1' : xl_X4_readLine n 53 [80, 4, (of : Int), (tkS u N x : Int), (ln : Int), 0] g = some (v, h2) := r1
        rw [r1', xb_some, xg_pos (by omega)]
        have hX2 : cX h h2 := fun a j w => by rw [r3 a j w]; exact hX1 a j w
        rcases r4 with ⟨rfl, k, k1, k2, k3, k4⟩ | ⟨ka, ⟨rfl, k2, k4⟩ | ⟨rfl, k2, k9, k4⟩⟩
        · have hex : ∃ i, i < lnN ln ∧ tkK u N (tkN u N x (i + 1)) ≠ 3 ∧ ∀ j, j < i → tkK u N (tkN u N x (j + 1)) = 3 := ⟨k, k1, k2, k3⟩
          rw [dif_pos hex]
          have hch := hex.choose_spec
          have hek : hex.choose = k := by
            rcases Nat.lt_trichotomy hex.choose k with w | w | w
            · exact absurd (k3 _ w) hch.2.1
            · exact w
            · exact absurd (hch.2.2 k w) k2
          rw [hek]
          exact ⟨h2, brk_e hof r2 k4 (show (1 : Int) ≠ 0 by decide) (by omega), r2, hX2, k4⟩
        · rw [dif_neg (fun ⟨i, i1, i2, _⟩ => i2 (ka i i1)), if_pos k2]
          exact ⟨h2, brk_e hof r2 k4 (show (1 : Int) ≠ 0 by decide) (by omega), r2, hX2, k4⟩
        · rw [dif_neg (fun ⟨i, i1, i2, _⟩ => i2 (ka i i1)), if_neg (fun w => w k2)]
          have y1 : x ≤ tkN u N x (lnN ln + 1) := tkN_le _
          have y2 : tkN u N x (lnN ln + 1) ≤ N := tkN_m hx _
          have y3 : tkS u N (tkN u N x (lnN ln + 1)) < N := by
            have a1 : tkS u N (tkN u N x (lnN ln + 1)) ≤ N := tkS_n y2
            have a2 : ¬ tkS u N (tkN u N x (lnN ln + 1)) = N := fun w => by
              have := (tkK_0 y2).mpr w
              omega
            omega
          have y4 := tkE_gt y3
          have y5 : tkN u N x (lnN ln + 1) ≤ tkS u N (tkN u N x (lnN ln + 1)) := tkS_le
          have y6 : tkE u N (tkN u N x (lnN ln + 1)) ≤ N := tkE_n y2
          obtain ⟨h3, s1, s2, s3, s4⟩ := ih (l + 1) (tkE u N (tkN u N x (lnN ln + 1))) n _ h2 _ (lnFc ln (fun i => tkV u N (tkN u N x (i + 1))) c) (lnFo ln (fun i => tkV u N (tkN u N x (i + 1))) o) (by omega) (by omega) y6 (by omega) r2 k9 k4 (fun w => by
            obtain ⟨z1, z2, z3⟩ := ntL_0 w
            have hq : q.1 = 0 := by
              by_cases hq : q.1 = 0
              · exact hq
              · rw [ntn hq] at z1; exact absurd z1 hq
            have hM : ¬ (lnAdds ln ∧ t (lnC ln) = lnM ln) := by
              intro w2
              rw [ntt hq w2] at z1
              exact absurd z1 (show ¬ (3 : Int) = 0 by decide)
            obtain ⟨-, -, t2, -, ew, et⟩ := hH1
            rw [et hq] at ew
            exact cI_T hof hi (hI hq) ew z3 hM)
          exact ⟨h3, s1, s2, fun a j w => by rw [s3 a j w]; exact hX2 a j w, s4⟩
theorem clear_s {n c : Nat} {h : yH} (hP : cP h) (hc : c < 3) : xl_X6_clear (n + 1) 29 [90, (c : Int)] h = xl_X6_clear n 29 [90, ((c + 1 : Nat) : Int)] (zup (zup (zup (zup h 91 (4 * c) 3) 91 (4 * c + 1) 1) 91 (4 * c + 2) 4) 91 (4 * c + 3) 6) := by
  have p91 := hP.p (a := 90) (j := 5) (v := 91) (by decide)
  rw [e_X6_clear_29, if_pos (by omega), xg_pos p91, xg_pos (by omega), xg_pos (by omega), xg_pos (by omega), xg_pos p91, xg_pos (by omega), xg_pos (by omega), xg_pos (by omega), xg_pos p91, xg_pos (by omega), xg_pos (by omega), xg_pos (by omega), xg_pos p91, xg_pos (by omega), xg_pos (by omega), xg_pos (by omega), xg_pos (by omega), show (4 * (c : Int) + 0).toNat = 4 * c by omega, show (4 * (c : Int) + 1).toNat = 4 * c + 1 by omega, show (4 * (c : Int) + 2).toNat = 4 * c + 2 by omega, show (4 * (c : Int) + 3).toNat = 4 * c + 3 by omega]
  rfl
theorem cF_91 : ∀ j, cF 91 j = false := fun j => by
  unfold cF
  rw [List.any_eq_false]
  intro p hp
  have : ∀ p ∈ cPL, p.1 ≠ 91 := by decide +kernel
  simp [this p hp]
/-- what is told at the beginning -/
theorem clear_e {n : Nat} {h : yH} (hP : cP h) (hn : 5 ≤ n) : ∃ h2, f_X6_clear n [90] h = some (0, h2) ∧ cP h2 ∧ (∀ a j, ¬ (a = 90 ∨ a = 91) → h2 a j = h a j) ∧ ∀ t : Nat → Int, (∀ j, j < 121 → t j = tI 0 j) → cS 90 t h2 := by
  obtain ⟨n, rfl⟩ : ∃ n', n = n' + 4 := ⟨n - 4, by omega⟩
  have q0 : cP (zup (zup (zup (zup (zup h 90 0 6) 90 1 6) 90 2 0) 90 3 0) 90 4 4) := ((((hP.up (by decide)).up (by decide)).up (by decide)).up (by decide)).up (by decide)
  rw [e_X6_clear]
  have nx : ∀ c g, cP g → cP (zup (zup (zup (zup g 91 (4 * c) 3) 91 (4 * c + 1) 1) 91 (4 * c + 2) 4) 91 (4 * c + 3) 6) := fun c g w => (((w.up (cF_91 _)).up (cF_91 _)).up (cF_91 _)).up (cF_91 _)
  have s0 := clear_s (n := n + 3) (c := 0) q0 (by decide)
  have s1 := clear_s (n := n + 2) (c := 1) (nx 0 _ q0) (by decide)
  have s2 := clear_s (n := n + 1) (c := 2) (nx 1 _ (nx 0 _ q0)) (by decide)
  have q3 := nx 2 _ (nx 1 _ (nx 0 _ q0))
  have s3 : xl_X6_clear (n + 1) 29 [90, ((2 + 1 : Nat) : Int)] _ = _ := (e_X6_clear_29 (n := n) (x1 := ((2 + 1 : Nat) : Int)) (h := (zup (zup (zup (zup (zup (zup (zup (zup (zup (zup (zup (zup (zup (zup (zup (zup (zup h 90 0 6) 90 1 6) 90 2 0) 90 3 0) 90 4 4) 91 (4 * 0) 3) 91 (4 * 0 + 1) 1) 91 (4 * 0 + 2) 4) 91 (4 * 0 + 3) 6) 91 (4 * 1) 3) 91 (4 * 1 + 1) 1) 91 (4 * 1 + 2) 4) 91 (4 * 1 + 3) 6) 91 (4 * 2) 3) 91 (4 * 2 + 1) 1) 91 (4 * 2 + 2) 4) 91 (4 * 2 + 3) 6))).trans (if_neg (by decide))
  refine ⟨_, s0.trans (s1.trans (s2.trans s3)), ((q3.up (by decide)).up (by decide)).up (by decide), fun a j w => ?_, fun t ht => ?_⟩
  · rw [zup_ne (by omega), zup_ne (by omega), zup_ne (by omega), zup_ne (by omega), zup_ne (by omega), zup_ne (by omega), zup_ne (by omega), zup_ne (by omega), zup_ne (by omega), zup_ne (by omega), zup_ne (by omega), zup_ne (by omega), zup_ne (by omega), zup_ne (by omega), zup_ne (by omega), zup_ne (by omega), zup_ne (by omega), zup_ne (by omega), zup_ne (by omega), zup_ne (by omega)]
  · have t5 : t 5 = 0 := by rw [ht 5 (by decide)]; rfl
    have t6 : t 6 = 0 := by rw [ht 6 (by decide)]; rfl
    refine ⟨by rw [ht 0 (by decide)]; rfl, by rw [ht 1 (by decide)]; rfl, by rw [ht 2 (by decide)]; rfl, by rw [ht 3 (by decide)]; rfl, by rw [ht 4 (by decide)]; rfl, by rw [ht 5 (by decide)]; rfl, by rw [ht 6 (by decide)]; rfl, by rw [ht 49 (by decide)]; rfl, fun i hi => ?_, fun k hk => by omega, fun k hk => by omega⟩
    rw [ht (7 + i) (by omega)]
    rcases (show i = 0 ∨ i = 1 ∨ i = 2 ∨ i = 3 ∨ i = 4 ∨ i = 5 ∨ i = 6 ∨ i = 7 ∨ i = 8 ∨ i = 9 ∨ i = 10 ∨ i = 11 by omega) with rfl | rfl | rfl | rfl | rfl | rfl | rfl | rfl | rfl | rfl | rfl | rfl <;> rfl
theorem cI_0 {of : Nat} {t : Nat → Int} (hof : of ≤ 2) (ht : ∀ j, j < 121 → t j = tI of j) : cI of t (-1) (-1) := by
  refine ⟨fun e => ?_, fun e => ?_⟩
  · subst e
    have t5 : t 5 = 0 := by rw [ht 5 (by decide)]; rfl
    have t6 : t 6 = 0 := by rw [ht 6 (by decide)]; rfl
    have t49 : t 49 = 0 := by rw [ht 49 (by decide)]; rfl
    refine ⟨fun k hk => by omega, fun k hk => by omega, Or.inl rfl, ?_⟩
    rw [t49]
    unfold dI
    decide
  · subst e
    have t1 : t 1 = 0 := by rw [ht 1 (by decide)]; rfl
    exact ⟨fun k hk => by omega, Or.inl rfl⟩
/-- read(): as the document reads a text -/
theorem read_e {u : Nat → Int} {N of n : Nat} {t0 : Nat → Int} {h : yH} (hof : of ≤ 2) (hn : 2800 ≤ n) (hc : cC u N h) (ht : ∀ j, j < 121 → t0 j = tI of j) : ∃ h2, f_X4_read n [80, 4, (of : Int)] h = some (0, h2) ∧ cC u N h2 ∧ cX h h2 ∧ cH of (pRd u N of 700 0 (0, -1) t0 (-1) (-1)).1 (pRd u N of 700 0 (0, -1) t0 (-1) (-1)).2 h2 := by
  have hP := hc.2.2.2
  have hN := hc.2.1
  obtain ⟨g, g1, g2, g3, g4⟩ := clear_e (n := n) hP (by omega)
  rw [e_X4_read, xg_pos (hP.p (by decide)), g1, xb_some, xg_pos (g2.p (by decide)), e_X1_clear, xb_some, xg_pos ((g2.up (by decide)).p (by decide)), e_X2_clear, xb_some]
  generalize hk : zup (zup (zup (zup (zup (zup g 100 0 0) 110 0 0) 110 3 0) 80 3 0) 80 4 (-1)) 80 9 0 = k
  have kn : ∀ a j, ¬ (a = 100 ∧ j = 0) → ¬ (a = 110 ∧ (j = 0 ∨ j = 3)) → ¬ (a = 80 ∧ (j = 3 ∨ j = 4 ∨ j = 9)) → k a j = g a j := fun a j w1 w2 w3 => by rw [← hk, zup_ne (by omega), zup_ne (by omega), zup_ne (by omega), zup_ne (by omega), zup_ne (by omega), zup_ne (by omega)]
  have kP : cP k := by
    rw [← hk]
    exact (((((g2.up (by decide)).up (by decide)).up (by decide)).up (by decide)).up (by decide)).up (by decide)
  have k9 : k 80 9 = ((0 : Nat) : Int) := by rw [← hk, zup_at]; rfl
  have k4 : k 80 4 = -1 := by rw [← hk, zup_ne (by omega), zup_at]
  have k3 : k 80 3 = 0 := by rw [← hk, zup_ne (by omega), zup_ne (by omega), zup_at]
  have k113 : k 110 3 = 0 := by rw [← hk, zup_ne (by omega), zup_ne (by omega), zup_ne (by omega), zup_at]
  have k110 : k 110 0 = 0 := by rw [← hk, zup_ne (by omega), zup_ne (by omega), zup_ne (by omega), zup_ne (by omega), zup_at]
  have k100 : k 100 0 = 0 := by rw [← hk, zup_ne (by omega), zup_ne (by omega), zup_ne (by omega), zup_ne (by omega), zup_ne (by omega), zup_at]
  have kX : cX h k := fun a j w => by rw [kn a j (by omega) (by omega) (by omega), g3 a j (by omega)]
  have kC : cC u N k := ⟨by rw [kX 4 1 (by omega)]; exact hc.1, hN, fun i hi => by rw [kX 5 i (by omega)]; exact hc.2.2.1 i hi, kP⟩
  have kR : cR of t0 k := by
    refine ⟨fun e => ?_, fun e => ?_, fun e => ?_⟩
    · subst e
      exact (g4 t0 ht).fr (fun a j w1 w2 => kn a j (by omega) (by omega) (by omega))
    · subst e
      have z : t0 0 = 0 := by rw [ht 0 (by decide)]; rfl
      exact ⟨by rw [k100, z], fun j hj => by omega⟩
    · subst e
      have z0 : t0 0 = 0 := by rw [ht 0 (by decide)]; rfl
      have z1 : t0 1 = 0 := by rw [ht 1 (by decide)]; rfl
      exact ⟨by rw [k110, z0], by rw [k113, z1], fun j hj => by omega, fun j hj => by omega⟩
  obtain ⟨h2, r1, r2, r3, r4⟩ := read_l (u := u) (N := N) hof 700 0 0 n (0, -1) k t0 (-1) (-1) (by omega) (by omega) (by omega) (by omega) kC k9 ⟨k3, k4, t0, kR, tI_W hof ht, fun _ => rfl⟩ (fun _ => cI_0 hof ht)
  exact ⟨h2, r1, r2, fun a j w => by rw [r3 a j w]; exact kX a j w, r4⟩
end
section
/-! the class: what is read is kept -/
/-- cells d .. d+7 are taken from s .. s+7, so far as F says -/
def cpR (F : Nat → Nat → Prop) (d s : Nat) (h g : yH) : Prop := (∀ r j, F r j → r ≤ 7 ∧ g (d + r) j = h (s + r) j) ∧ ∀ a j, ¬ (d ≤ a ∧ F (a - d) j) → g a j = h a j
theorem cp_0 (d s : Nat) (h : yH) : cpR (fun _ _ => False) d s h h := ⟨fun _ _ w => w.elim, fun _ _ _ => rfl⟩
theorem cpR.s0 {F : Nat → Nat → Prop} {d s r j : Nat} {h g : yH} (R : cpR F d s h g) (hd : d + 8 ≤ s ∨ s + 8 ≤ d) (hr : r ≤ 7) : g (s + r) j = h (s + r) j := by
  refine R.2 _ _ (fun w => ?_)
  have := (R.1 _ _ w.2).1
  omega
theorem cpR.d0 {F : Nat → Nat → Prop} {d s j : Nat} {h g : yH} (R : cpR F d s h g) (hF : ¬ F 0 j) : g d j = h d j := R.2 _ _ (fun w => hF (by have := w.2; rw [Nat.sub_self] at this; exact this))
theorem cp_up {F : Nat → Nat → Prop} {d s J : Nat} {h g : yH} (R : cpR F d s h g) (hd : d + 8 ≤ s ∨ s + 8 ≤ d) : cpR (fun r j => F r j ∨ (r = 0 ∧ j = J)) d s h (zup g d J (g s J)) := by
  have hs : g s J = h s J := R.s0 (r := 0) hd (by omega)
  refine ⟨fun r j w => ?_, fun a j w => ?_⟩
  · by_cases c : r = 0 ∧ j = J
    · rw [c.1, c.2, Nat.add_zero, Nat.add_zero, zup_at, hs]
      exact ⟨by omega, rfl⟩
    · have w2 : F r j := w.resolve_right c
      rw [zup_ne (by omega)]
      exact R.1 r j w2
  · rw [zup_ne (fun c => w ⟨by omega, Or.inr ⟨by omega, c.2⟩⟩)]
    exact R.2 a j (fun c => w ⟨c.1, Or.inl c.2⟩)
theorem cp_cy {F : Nat → Nat → Prop} {d s r0 L : Nat} {h g : yH} (R : cpR F d s h g) (hd : d + 8 ≤ s ∨ s + 8 ≤ d) (hr : r0 ≤ 7) : cpR (fun r j => F r j ∨ (r = r0 ∧ j < L)) d s h (zcy g (d + r0) (s + r0) 0 0 L) := by
  refine ⟨fun r j w => ?_, fun a j w => ?_⟩
  · rw [zcy_app]
    by_cases c : r = r0 ∧ j < L
    · rw [if_pos (by omega), show 0 + (j - 0) = j by omega, c.1]
      exact ⟨hr, R.s0 hd hr⟩
    · rw [if_neg (by omega)]
      exact R.1 r j (w.resolve_right c)
  · rw [zcy_app, if_neg (fun c => w ⟨by omega, Or.inr ⟨by omega, by omega⟩⟩)]
    exact R.2 a j (fun c => w ⟨c.1, Or.inl c.2⟩)
theorem xh_e (h : yH) (k : yH → yO) : xh h k = k h := rfl
set_option maxHeartbeats 1000000 in
theorem copy6 {n d s : Nat} {t : Nat → Int} {h : yH} (hd : d + 8 ≤ s ∨ s + 8 ≤ d) (pd : h d 5 = (d : Int) + 1 ∧ h d 7 = (d : Int) + 2 ∧ h d 8 = (d : Int) + 3 ∧ h d 9 = (d : Int) + 4 ∧ h d 11 = (d : Int) + 5 ∧ h d 12 = (d : Int) + 6 ∧ h d 13 = (d : Int) + 7) (ps : h s 5 = (s : Int) + 1 ∧ h s 7 = (s : Int) + 2 ∧ h s 8 = (s : Int) + 3 ∧ h s 9 = (s : Int) + 4 ∧ h s 11 = (s : Int) + 5 ∧ h s 12 = (s : Int) + 6 ∧ h s 13 = (s : Int) + 7) (hS : cS s t h) (hW : tW0 t) : ∃ h2, f_X6_copyFrom n [(d : Int), (s : Int)] h = some (0, h2) ∧ cS d t h2 ∧ ∀ a j, ¬ (d ≤ a ∧ a ≤ d + 7) ∨ (a = d ∧ (j = 5 ∨ j = 7 ∨ j = 8 ∨ j = 9 ∨ j = 11 ∨ j = 12 ∨ j = 13)) → h2 a j = h a j := by
  obtain ⟨pd5, pd7, pd8, pd9, pd11, pd12, pd13⟩ := pd
  obtain ⟨ps5, ps7, ps8, ps9, ps11, ps12, ps13⟩ := ps
  obtain ⟨a0, a1, a2, a3, a4, a5, a6, a7, a8, a9, a10⟩ := hS
  have w5 : 0 ≤ t 5 ∧ t 5 ≤ 4 := hW.2.2.2.2.2.1
  have w6 : 0 ≤ t 6 ∧ t 6 ≤ 6 := hW.2.2.2.2.2.2.1
  have b0 : 0 ≤ h s 0 ∧ h s 0 ≤ 8 := by have := hW.1; omega
  have b1 : 0 ≤ h s 1 ∧ h s 1 ≤ 8 := by have := hW.2.1; omega
  have b2 : 0 ≤ h s 2 ∧ h s 2 ≤ 3 := by have := hW.2.2.1; omega
  have b6 : 0 ≤ h s 6 ∧ h s 6 ≤ 4 := by omega
  have b10 : 0 ≤ h s 10 ∧ h s 10 ≤ 6 := by omega
  rw [e_X6_copyFrom]
  simp only [Int.toNat_natCast]
  have R0 := cp_0 d s h
  have hs : ∀ {F : Nat → Nat → Prop} {g : yH} {j : Nat}, cpR F d s h g → g s j = h s j := fun R => R.s0 (r := 0) hd (by omega)
  rw [xg_pos (by rw [hs R0]; exact b0)]
  have R1 := cp_up (J := 0) R0 hd
  rw [xh_e]
  generalize zup h d 0 (h s 0) = g1 at R1 ⊢
  rw [xg_pos (by rw [hs R1]; exact b1)]
  have R2 := cp_up (J := 1) R1 hd
  rw [xh_e]
  generalize zup g1 d 1 (g1 s 1) = g2 at R2 ⊢
  rw [xg_pos (by rw [hs R2]; exact b2)]
  have R3 := cp_up (J := 2) R2 hd
  rw [xh_e]
  generalize zup g2 d 2 (g2 s 2) = g3 at R3 ⊢
  have R4 := cp_up (J := 3) R3 hd
  rw [xh_e]
  generalize zup g3 d 3 (g3 s 3) = g4 at R4 ⊢
  have R5 := cp_up (J := 4) R4 hd
  rw [xh_e]
  generalize zup g4 d 4 (g4 s 4) = g5 at R5 ⊢
  rw [xg_pos (show g5 s 5 = (s : Int) + 1 by rw [hs R5]; exact ps5), xg_pos (show g5 d 5 = (d : Int) + 1 by rw [R5.d0 (by simp)]; exact pd5), xg_pos (show g5 d 5 = (d : Int) + 1 by rw [R5.d0 (by simp)]; exact pd5)]
  rw [show ((d : Int) + 1).toNat = d + 1 by omega, show ((s : Int) + 1).toNat = s + 1 by omega]
  have R6 := cp_cy (r0 := 1) (L := 12) R5 hd (by decide)
  rw [xh_e]
  generalize zcy g5 (d + 1) (s + 1) 0 0 12 = g6 at R6 ⊢
  rw [xg_pos (by rw [hs R6]; exact b6)]
  have R7 := cp_up (J := 6) R6 hd
  rw [xh_e]
  generalize zup g6 d 6 (g6 s 6) = g7 at R7 ⊢
  rw [xg_pos (show g7 s 7 = (s : Int) + 2 by rw [hs R7]; exact ps7), xg_pos (show g7 d 7 = (d : Int) + 2 by rw [R7.d0 (by simp)]; exact pd7)]
  rw [show ((d : Int) + 2).toNat = d + 2 by omega, show ((s : Int) + 2).toNat = s + 2 by omega]
  have R8 := cp_cy (r0 := 2) (L := 4) R7 hd (by decide)
  rw [xh_e]
  generalize zcy g7 (d + 2) (s + 2) 0 0 4 = g8 at R8 ⊢
  rw [xg_pos (show g8 s 8 = (s : Int) + 3 by rw [hs R8]; exact ps8), xg_pos (show g8 d 8 = (d : Int) + 3 by rw [R8.d0 (by simp)]; exact pd8)]
  rw [show ((d : Int) + 3).toNat = d + 3 by omega, show ((s : Int) + 3).toNat = s + 3 by omega]
  have R9 := cp_cy (r0 := 3) (L := 4) R8 hd (by decide)
  rw [xh_e]
  generalize zcy g8 (d + 3) (s + 3) 0 0 4 = g9 at R9 ⊢
  rw [xg_pos (show g9 s 9 = (s : Int) + 4 by rw [hs R9]; exact ps9), xg_pos (show g9 d 9 = (d : Int) + 4 by rw [R9.d0 (by simp)]; exact pd9)]
  rw [show ((d : Int) + 4).toNat = d + 4 by omega, show ((s : Int) + 4).toNat = s + 4 by omega]
  have R10 := cp_cy (r0 := 4) (L := 4) R9 hd (by decide)
  rw [xh_e]
  generalize zcy g9 (d + 4) (s + 4) 0 0 4 = g10 at R10 ⊢
  rw [xg_pos (by rw [hs R10]; exact b10)]
  have R11 := cp_up (J := 10) R10 hd
  rw [xh_e]
  generalize zup g10 d 10 (g10 s 10) = g11 at R11 ⊢
  rw [xg_pos (show g11 s 11 = (s : Int) + 5 by rw [hs R11]; exact ps11), xg_pos (show g11 d 11 = (d : Int) + 5 by rw [R11.d0 (by simp)]; exact pd11)]
  rw [show ((d : Int) + 5).toNat = d + 5 by omega, show ((s : Int) + 5).toNat = s + 5 by omega]
  have R12 := cp_cy (r0 := 5) (L := 6) R11 hd (by decide)
  rw [xh_e]
  generalize zcy g11 (d + 5) (s + 5) 0 0 6 = g12 at R12 ⊢
  rw [xg_pos (show g12 s 12 = (s : Int) + 6 by rw [hs R12]; exact ps12), xg_pos (show g12 d 12 = (d : Int) + 6 by rw [R12.d0 (by simp)]; exact pd12)]
  rw [show ((d : Int) + 6).toNat = d + 6 by omega, show ((s : Int) + 6).toNat = s + 6 by omega]
  have R13 := cp_cy (r0 := 6) (L := 6) R12 hd (by decide)
  rw [xh_e]
  generalize zcy g12 (d + 6) (s + 6) 0 0 6 = g13 at R13 ⊢
  rw [xg_pos (show g13 s 13 = (s : Int) + 7 by rw [hs R13]; exact ps13), xg_pos (show g13 d 13 = (d : Int) + 7 by rw [R13.d0 (by simp)]; exact pd13)]
  rw [show ((d : Int) + 7).toNat = d + 7 by omega, show ((s : Int) + 7).toNat = s + 7 by omega]
  have R14 := cp_cy (r0 := 7) (L := 6) R13 hd (by decide)
  rw [xh_e]
  generalize zcy g13 (d + 7) (s + 7) 0 0 6 = g14 at R14 ⊢
  have R15 := cp_up (J := 14) R14 hd
  rw [xh_e]
  generalize zup g14 d 14 (g14 s 14) = g15 at R15 ⊢
  have F0 : g15 d 0 = h s 0 := (R15.1 0 0 (Or.inl (Or.inl (Or.inl (Or.inl (Or.inl (Or.inl (Or.inl (Or.inl (Or.inl (Or.inl (Or.inl (Or.inl (Or.inl (Or.inl (Or.inr ⟨rfl, rfl⟩)))))))))))))))).2
  have F1 : g15 d 1 = h s 1 := (R15.1 0 1 (Or.inl (Or.inl (Or.inl (Or.inl (Or.inl (Or.inl (Or.inl (Or.inl (Or.inl (Or.inl (Or.inl (Or.inl (Or.inl (Or.inr ⟨rfl, rfl⟩))))))))))))))).2
  have F2 : g15 d 2 = h s 2 := (R15.1 0 2 (Or.inl (Or.inl (Or.inl (Or.inl (Or.inl (Or.inl (Or.inl (Or.inl (Or.inl (Or.inl (Or.inl (Or.inl (Or.inr ⟨rfl, rfl⟩)))))))))))))).2
  have F3 : g15 d 3 = h s 3 := (R15.1 0 3 (Or.inl (Or.inl (Or.inl (Or.inl (Or.inl (Or.inl (Or.inl (Or.inl (Or.inl (Or.inl (Or.inl (Or.inr ⟨rfl, rfl⟩))))))))))))).2
  have F4 : g15 d 4 = h s 4 := (R15.1 0 4 (Or.inl (Or.inl (Or.inl (Or.inl (Or.inl (Or.inl (Or.inl (Or.inl (Or.inl (Or.inl (Or.inr ⟨rfl, rfl⟩)))))))))))).2
  have B1 : ∀ j, j < 12 → g15 (d + 1) j = h (s + 1) j := fun j w => (R15.1 1 j (Or.inl (Or.inl (Or.inl (Or.inl (Or.inl (Or.inl (Or.inl (Or.inl (Or.inl (Or.inr ⟨rfl, w⟩))))))))))).2
  have F6 : g15 d 6 = h s 6 := (R15.1 0 6 (Or.inl (Or.inl (Or.inl (Or.inl (Or.inl (Or.inl (Or.inl (Or.inl (Or.inr ⟨rfl, rfl⟩)))))))))).2
  have B2 : ∀ j, j < 4 → g15 (d + 2) j = h (s + 2) j := fun j w => (R15.1 2 j (Or.inl (Or.inl (Or.inl (Or.inl (Or.inl (Or.inl (Or.inl (Or.inr ⟨rfl, w⟩))))))))).2
  have B3 : ∀ j, j < 4 → g15 (d + 3) j = h (s + 3) j := fun j w => (R15.1 3 j (Or.inl (Or.inl (Or.inl (Or.inl (Or.inl (Or.inl (Or.inr ⟨rfl, w⟩)))))))).2
  have B4 : ∀ j, j < 4 → g15 (d + 4) j = h (s + 4) j := fun j w => (R15.1 4 j (Or.inl (Or.inl (Or.inl (Or.inl (Or.inl (Or.inr ⟨rfl, w⟩))))))).2
  have F10 : g15 d 10 = h s 10 := (R15.1 0 10 (Or.inl (Or.inl (Or.inl (Or.inl (Or.inr ⟨rfl, rfl⟩)))))).2
  have B5 : ∀ j, j < 6 → g15 (d + 5) j = h (s + 5) j := fun j w => (R15.1 5 j (Or.inl (Or.inl (Or.inl (Or.inr ⟨rfl, w⟩))))).2
  have B6 : ∀ j, j < 6 → g15 (d + 6) j = h (s + 6) j := fun j w => (R15.1 6 j (Or.inl (Or.inl (Or.inr ⟨rfl, w⟩)))).2
  have B7 : ∀ j, j < 6 → g15 (d + 7) j = h (s + 7) j := fun j w => (R15.1 7 j (Or.inl (Or.inr ⟨rfl, w⟩))).2
  have F14 : g15 d 14 = h s 14 := (R15.1 0 14 (Or.inr ⟨rfl, rfl⟩)).2
  refine ⟨g15, rfl, ?_, fun a j w => R15.2 a j (fun c => ?_)⟩
  · exact ⟨F0.trans a0, F1.trans a1, F2.trans a2, F3.trans a3, F4.trans a4, F6.trans a5, F10.trans a6, F14.trans a7, fun i hi => (B1 i (by omega)).trans (a8 i hi), fun k hk => ⟨(B2 k (by omega)).trans (a9 k hk).1, (B3 k (by omega)).trans (a9 k hk).2.1, (B4 k (by omega)).trans (a9 k hk).2.2⟩, fun k hk => ⟨(B5 k (by omega)).trans (a10 k hk).1, (B6 k (by omega)).trans (a10 k hk).2.1, (B7 k (by omega)).trans (a10 k hk).2.2⟩⟩
  · obtain ⟨c1, c2⟩ := c
    rcases c2 with ((((((((((((((c2 | c2) | c2) | c2) | c2) | c2) | c2) | c2) | c2) | c2) | c2) | c2) | c2) | c2) | c2) | c2 <;> first | exact c2.elim | omega
set_option maxHeartbeats 1000000 in
theorem copy1 {n d s : Nat} {t : Nat → Int} {h : yH} (hd : d + 8 ≤ s ∨ s + 8 ≤ d) (pd : h d 1 = (d : Int) + 1 ∧ h d 2 = (d : Int) + 2) (ps : h s 1 = (s : Int) + 1 ∧ h s 2 = (s : Int) + 2) (hS : cD s t h) (hW : tW1 t) : ∃ h2, f_X1_copyFrom n [(d : Int), (s : Int)] h = some (0, h2) ∧ cD d t h2 ∧ ∀ a j, ¬ (d ≤ a ∧ a ≤ d + 7) ∨ (a = d ∧ (j = 1 ∨ j = 2)) → h2 a j = h a j := by
  obtain ⟨pd1, pd2⟩ := pd
  obtain ⟨ps1, ps2⟩ := ps
  obtain ⟨a0, a1⟩ := hS
  have w0 : 0 ≤ t 0 ∧ t 0 ≤ 30 := hW.1
  have b0 : 0 ≤ h s 0 ∧ h s 0 ≤ 30 := by omega
  rw [e_X1_copyFrom]
  simp only [Int.toNat_natCast]
  have R0 := cp_0 d s h
  have hs : ∀ {F : Nat → Nat → Prop} {g : yH} {j : Nat}, cpR F d s h g → g s j = h s j := fun R => R.s0 (r := 0) hd (by omega)
  rw [xg_pos (by rw [hs R0]; exact b0)]
  have R1 := cp_up (J := 0) R0 hd
  rw [xh_e]
  generalize zup h d 0 (h s 0) = g1 at R1 ⊢
  rw [xg_pos (show g1 s 1 = (s : Int) + 1 by rw [hs R1]; exact ps1), xg_pos (show g1 d 1 = (d : Int) + 1 by rw [R1.d0 (by simp)]; exact pd1)]
  rw [show ((d : Int) + 1).toNat = d + 1 by omega, show ((s : Int) + 1).toNat = s + 1 by omega]
  have R2 := cp_cy (r0 := 1) (L := 30) R1 hd (by decide)
  rw [xh_e]
  generalize zcy g1 (d + 1) (s + 1) 0 0 30 = g2 at R2 ⊢
  rw [xg_pos (show g2 s 2 = (s : Int) + 2 by rw [hs R2]; exact ps2), xg_pos (show g2 d 2 = (d : Int) + 2 by rw [R2.d0 (by simp)]; exact pd2), xg_pos (show g2 d 2 = (d : Int) + 2 by rw [R2.d0 (by simp)]; exact pd2)]
  rw [show ((d : Int) + 2).toNat = d + 2 by omega, show ((s : Int) + 2).toNat = s + 2 by omega]
  have R3 := cp_cy (r0 := 2) (L := 90) R2 hd (by decide)
  rw [xh_e]
  generalize zcy g2 (d + 2) (s + 2) 0 0 90 = g3 at R3 ⊢
  have F0 : g3 d 0 = h s 0 := (R3.1 0 0 (Or.inl (Or.inl (Or.inr ⟨rfl, rfl⟩)))).2
  have B1 : ∀ j, j < 30 → g3 (d + 1) j = h (s + 1) j := fun j w => (R3.1 1 j (Or.inl (Or.inr ⟨rfl, w⟩))).2
  have B2 : ∀ j, j < 90 → g3 (d + 2) j = h (s + 2) j := fun j w => (R3.1 2 j (Or.inr ⟨rfl, w⟩)).2
  refine ⟨g3, rfl, ?_, fun a j w => R3.2 a j (fun c => ?_)⟩
  · exact ⟨F0.trans a0, fun k hk => ⟨(B1 k (by omega)).trans (a1 k hk).1, (B2 (3 * k) (by omega)).trans (a1 k hk).2.1, (B2 (3 * k + 1) (by omega)).trans (a1 k hk).2.2.1, (B2 (3 * k + 2) (by omega)).trans (a1 k hk).2.2.2⟩⟩
  · obtain ⟨c1, c2⟩ := c
    rcases c2 with ((c2 | c2) | c2) | c2 <;> first | exact c2.elim | omega
set_option maxHeartbeats 1000000 in
theorem copy2 {n d s : Nat} {t : Nat → Int} {h : yH} (hd : d + 8 ≤ s ∨ s + 8 ≤ d) (pd : h d 1 = (d : Int) + 1 ∧ h d 2 = (d : Int) + 2 ∧ h d 4 = (d : Int) + 3 ∧ h d 5 = (d : Int) + 4) (ps : h s 1 = (s : Int) + 1 ∧ h s 2 = (s : Int) + 2 ∧ h s 4 = (s : Int) + 3 ∧ h s 5 = (s : Int) + 4) (hS : cQ s t h) (hW : tW2 t) : ∃ h2, f_X2_copyFrom n [(d : Int), (s : Int)] h = some (0, h2) ∧ cQ d t h2 ∧ ∀ a j, ¬ (d ≤ a ∧ a ≤ d + 7) ∨ (a = d ∧ (j = 1 ∨ j = 2 ∨ j = 4 ∨ j = 5)) → h2 a j = h a j := by
  obtain ⟨pd1, pd2, pd4, pd5⟩ := pd
  obtain ⟨ps1, ps2, ps4, ps5⟩ := ps
  obtain ⟨a0, a1, a2, a3⟩ := hS
  have w0 : 0 ≤ t 0 ∧ t 0 ≤ 9 := hW.1
  have w1 : 0 ≤ t 1 ∧ t 1 ≤ 16 := hW.2.1
  have b0 : 0 ≤ h s 0 ∧ h s 0 ≤ 9 := by omega
  have b3 : 0 ≤ h s 3 ∧ h s 3 ≤ 16 := by omega
  rw [e_X2_copyFrom]
  simp only [Int.toNat_natCast]
  have R0 := cp_0 d s h
  have hs : ∀ {F : Nat → Nat → Prop} {g : yH} {j : Nat}, cpR F d s h g → g s j = h s j := fun R => R.s0 (r := 0) hd (by omega)
  rw [xg_pos (by rw [hs R0]; exact b0)]
  have R1 := cp_up (J := 0) R0 hd
  rw [xh_e]
  generalize zup h d 0 (h s 0) = g1 at R1 ⊢
  rw [xg_pos (show g1 s 1 = (s : Int) + 1 by rw [hs R1]; exact ps1), xg_pos (show g1 d 1 = (d : Int) + 1 by rw [R1.d0 (by simp)]; exact pd1)]
  rw [show ((d : Int) + 1).toNat = d + 1 by omega, show ((s : Int) + 1).toNat = s + 1 by omega]
  have R2 := cp_cy (r0 := 1) (L := 9) R1 hd (by decide)
  rw [xh_e]
  generalize zcy g1 (d + 1) (s + 1) 0 0 9 = g2 at R2 ⊢
  rw [xg_pos (show g2 s 2 = (s : Int) + 2 by rw [hs R2]; exact ps2), xg_pos (show g2 d 2 = (d : Int) + 2 by rw [R2.d0 (by simp)]; exact pd2)]
  rw [show ((d : Int) + 2).toNat = d + 2 by omega, show ((s : Int) + 2).toNat = s + 2 by omega]
  have R3 := cp_cy (r0 := 2) (L := 9) R2 hd (by decide)
  rw [xh_e]
  generalize zcy g2 (d + 2) (s + 2) 0 0 9 = g3 at R3 ⊢
  rw [xg_pos (by rw [hs R3]; exact b3)]
  have R4 := cp_up (J := 3) R3 hd
  rw [xh_e]
  generalize zup g3 d 3 (g3 s 3) = g4 at R4 ⊢
  rw [xg_pos (show g4 s 4 = (s : Int) + 3 by rw [hs R4]; exact ps4), xg_pos (show g4 d 4 = (d : Int) + 3 by rw [R4.d0 (by simp)]; exact pd4)]
  rw [show ((d : Int) + 3).toNat = d + 3 by omega, show ((s : Int) + 3).toNat = s + 3 by omega]
  have R5 := cp_cy (r0 := 3) (L := 16) R4 hd (by decide)
  rw [xh_e]
  generalize zcy g4 (d + 3) (s + 3) 0 0 16 = g5 at R5 ⊢
  rw [xg_pos (show g5 s 5 = (s : Int) + 4 by rw [hs R5]; exact ps5), xg_pos (show g5 d 5 = (d : Int) + 4 by rw [R5.d0 (by simp)]; exact pd5)]
  rw [show ((d : Int) + 4).toNat = d + 4 by omega, show ((s : Int) + 4).toNat = s + 4 by omega]
  have R6 := cp_cy (r0 := 4) (L := 16) R5 hd (by decide)
  rw [xh_e]
  generalize zcy g5 (d + 4) (s + 4) 0 0 16 = g6 at R6 ⊢
  have F0 : g6 d 0 = h s 0 := (R6.1 0 0 (Or.inl (Or.inl (Or.inl (Or.inl (Or.inl (Or.inr ⟨rfl, rfl⟩))))))).2
  have B1 : ∀ j, j < 9 → g6 (d + 1) j = h (s + 1) j := fun j w => (R6.1 1 j (Or.inl (Or.inl (Or.inl (Or.inl (Or.inr ⟨rfl, w⟩)))))).2
  have B2 : ∀ j, j < 9 → g6 (d + 2) j = h (s + 2) j := fun j w => (R6.1 2 j (Or.inl (Or.inl (Or.inl (Or.inr ⟨rfl, w⟩))))).2
  have F3 : g6 d 3 = h s 3 := (R6.1 0 3 (Or.inl (Or.inl (Or.inr ⟨rfl, rfl⟩)))).2
  have B3 : ∀ j, j < 16 → g6 (d + 3) j = h (s + 3) j := fun j w => (R6.1 3 j (Or.inl (Or.inr ⟨rfl, w⟩))).2
  have B4 : ∀ j, j < 16 → g6 (d + 4) j = h (s + 4) j := fun j w => (R6.1 4 j (Or.inr ⟨rfl, w⟩)).2
  refine ⟨g6, rfl, ?_, fun a j w => R6.2 a j (fun c => ?_)⟩
  · exact ⟨F0.trans a0, F3.trans a1, fun k hk => ⟨(B1 k (by omega)).trans (a2 k hk).1, (B2 k (by omega)).trans (a2 k hk).2⟩, fun k hk => ⟨(B3 k (by omega)).trans (a3 k hk).1, (B4 k (by omega)).trans (a3 k hk).2⟩⟩
  · obtain ⟨c1, c2⟩ := c
    rcases c2 with (((((c2 | c2) | c2) | c2) | c2) | c2) | c2 <;> first | exact c2.elim | omega
end
section
/-! the class: keep() -/
def cO (of k : Nat) (t : Nat → Int) (h : yH) : Prop := (of = 0 → cS (20 + 10 * k) t h) ∧ (of = 1 → cD (40 + 10 * k) t h) ∧ (of = 2 → cQ (60 + 10 * k) t h)
theorem keep_00 {n : Nat} {t : Nat → Int} {h : yH} (hP : cP h) (hS : cS 90 t h) (hW : tW0 t) (hm : 0 ≤ h 6 0 ∧ h 6 0 ≤ 2) : ∃ h2, f_X9_keep n [3, 80, 0, 0] h = some (0, h2) ∧ h2 6 0 = max (h 6 0) (0 + 1) ∧ cS 20 t h2 ∧ ∀ a j, ¬ (a = 6 ∧ j = 0) → (¬ (20 ≤ a ∧ a ≤ 27) ∨ (a = 20 ∧ (j = 5 ∨ j = 7 ∨ j = 8 ∨ j = 9 ∨ j = 11 ∨ j = 12 ∨ j = 13))) → h2 a j = h a j := by
  obtain ⟨h3, c1, c2, c3⟩ := copy6 (n := n) (d := 20) (s := 90) (t := t) (h := h) (by omega) ⟨hP.p (by decide), hP.p (by decide), hP.p (by decide), hP.p (by decide), hP.p (by decide), hP.p (by decide), hP.p (by decide)⟩ ⟨hP.p (by decide), hP.p (by decide), hP.p (by decide), hP.p (by decide), hP.p (by decide), hP.p (by decide), hP.p (by decide)⟩ hS hW
  have e6 : h3 6 0 = h 6 0 := c3 6 0 (by omega)
  have e31 : h3 3 1 = 6 := by rw [c3 3 1 (by omega)]; exact hP.p (by decide)
  have c1' : f_X6_copyFrom n [(7 + 13 + 10 * 0 : Int), 90] h = some (0, h3) := c1
  rw [e_X9_keep, if_pos (by decide), xg_pos (hP.p (by decide)), xg_pos (by decide), xg_pos (show h 7 (0 : Int).toNat = (7 + 13 + 10 * 0 : Int) from hP.p (by decide)), xg_pos (hP.p (by decide)), c1', xb_some, xg_pos e31, xg_pos e31, xg_pos (by decide), xg_pos (by decide), xg_pos (by decide), show (0 : Int).toNat = 0 from rfl, xg_pos (show 0 ≤ max (h3 6 0) (0 + 1) ∧ max (h3 6 0) (0 + 1) ≤ 2 by rw [e6]; omega)]
  refine ⟨_, rfl, ?_, c2.fr (fun a j w1 w2 => zup_ne (by omega)), fun a j w1 w2 => ?_⟩
  · show zup h3 6 0 (max (h3 6 0) (0 + 1)) 6 0 = _
    rw [zup_at, e6]
  · show zup h3 6 0 (max (h3 6 0) (0 + 1)) a j = _
    rw [zup_ne w1]
    exact c3 a j w2
theorem keep_01 {n : Nat} {t : Nat → Int} {h : yH} (hP : cP h) (hS : cS 90 t h) (hW : tW0 t) (hm : 0 ≤ h 6 0 ∧ h 6 0 ≤ 2) : ∃ h2, f_X9_keep n [3, 80, 0, 1] h = some (0, h2) ∧ h2 6 0 = max (h 6 0) (1 + 1) ∧ cS 30 t h2 ∧ ∀ a j, ¬ (a = 6 ∧ j = 0) → (¬ (30 ≤ a ∧ a ≤ 37) ∨ (a = 30 ∧ (j = 5 ∨ j = 7 ∨ j = 8 ∨ j = 9 ∨ j = 11 ∨ j = 12 ∨ j = 13))) → h2 a j = h a j := by
  obtain ⟨h3, c1, c2, c3⟩ := copy6 (n := n) (d := 30) (s := 90) (t := t) (h := h) (by omega) ⟨hP.p (by decide), hP.p (by decide), hP.p (by decide), hP.p (by decide), hP.p (by decide), hP.p (by decide), hP.p (by decide)⟩ ⟨hP.p (by decide), hP.p (by decide), hP.p (by decide), hP.p (by decide), hP.p (by decide), hP.p (by decide), hP.p (by decide)⟩ hS hW
  have e6 : h3 6 0 = h 6 0 := c3 6 0 (by omega)
  have e31 : h3 3 1 = 6 := by rw [c3 3 1 (by omega)]; exact hP.p (by decide)
  have c1' : f_X6_copyFrom n [(7 + 13 + 10 * 1 : Int), 90] h = some (0, h3) := c1
  rw [e_X9_keep, if_pos (by decide), xg_pos (hP.p (by decide)), xg_pos (by decide), xg_pos (show h 7 (1 : Int).toNat = (7 + 13 + 10 * 1 : Int) from hP.p (by decide)), xg_pos (hP.p (by decide)), c1', xb_some, xg_pos e31, xg_pos e31, xg_pos (by decide), xg_pos (by decide), xg_pos (by decide), show (0 : Int).toNat = 0 from rfl, xg_pos (show 0 ≤ max (h3 6 0) (1 + 1) ∧ max (h3 6 0) (1 + 1) ≤ 2 by rw [e6]; omega)]
  refine ⟨_, rfl, ?_, c2.fr (fun a j w1 w2 => zup_ne (by omega)), fun a j w1 w2 => ?_⟩
  · show zup h3 6 0 (max (h3 6 0) (1 + 1)) 6 0 = _
    rw [zup_at, e6]
  · show zup h3 6 0 (max (h3 6 0) (1 + 1)) a j = _
    rw [zup_ne w1]
    exact c3 a j w2
theorem keep_10 {n : Nat} {t : Nat → Int} {h : yH} (hP : cP h) (hS : cD 100 t h) (hW : tW1 t) (hm : 0 ≤ h 6 1 ∧ h 6 1 ≤ 2) : ∃ h2, f_X9_keep n [3, 80, 1, 0] h = some (0, h2) ∧ h2 6 1 = max (h 6 1) (0 + 1) ∧ cD 40 t h2 ∧ ∀ a j, ¬ (a = 6 ∧ j = 1) → (¬ (40 ≤ a ∧ a ≤ 47) ∨ (a = 40 ∧ (j = 1 ∨ j = 2))) → h2 a j = h a j := by
  obtain ⟨h3, c1, c2, c3⟩ := copy1 (n := n) (d := 40) (s := 100) (t := t) (h := h) (by omega) ⟨hP.p (by decide), hP.p (by decide)⟩ ⟨hP.p (by decide), hP.p (by decide)⟩ hS hW
  have e6 : h3 6 1 = h 6 1 := c3 6 1 (by omega)
  have e31 : h3 3 1 = 6 := by rw [c3 3 1 (by omega)]; exact hP.p (by decide)
  have c1' : f_X1_copyFrom n [(8 + 32 + 10 * 0 : Int), 100] h = some (0, h3) := c1
  rw [e_X9_keep, if_neg (by decide), if_pos (by decide), xg_pos (hP.p (by decide)), xg_pos (by decide), xg_pos (show h 8 (0 : Int).toNat = (8 + 32 + 10 * 0 : Int) from hP.p (by decide)), xg_pos (hP.p (by decide)), c1', xb_some, xg_pos e31, xg_pos e31, xg_pos (by decide), xg_pos (by decide), xg_pos (by decide), show (1 : Int).toNat = 1 from rfl, xg_pos (show 0 ≤ max (h3 6 1) (0 + 1) ∧ max (h3 6 1) (0 + 1) ≤ 2 by rw [e6]; omega)]
  refine ⟨_, rfl, ?_, c2.fr (fun a j w1 w2 => zup_ne (by omega)), fun a j w1 w2 => ?_⟩
  · show zup h3 6 1 (max (h3 6 1) (0 + 1)) 6 1 = _
    rw [zup_at, e6]
  · show zup h3 6 1 (max (h3 6 1) (0 + 1)) a j = _
    rw [zup_ne w1]
    exact c3 a j w2
theorem keep_11 {n : Nat} {t : Nat → Int} {h : yH} (hP : cP h) (hS : cD 100 t h) (hW : tW1 t) (hm : 0 ≤ h 6 1 ∧ h 6 1 ≤ 2) : ∃ h2, f_X9_keep n [3, 80, 1, 1] h = some (0, h2) ∧ h2 6 1 = max (h 6 1) (1 + 1) ∧ cD 50 t h2 ∧ ∀ a j, ¬ (a = 6 ∧ j = 1) → (¬ (50 ≤ a ∧ a ≤ 57) ∨ (a = 50 ∧ (j = 1 ∨ j = 2))) → h2 a j = h a j := by
  obtain ⟨h3, c1, c2, c3⟩ := copy1 (n := n) (d := 50) (s := 100) (t := t) (h := h) (by omega) ⟨hP.p (by decide), hP.p (by decide)⟩ ⟨hP.p (by decide), hP.p (by decide)⟩ hS hW
  have e6 : h3 6 1 = h 6 1 := c3 6 1 (by omega)
  have e31 : h3 3 1 = 6 := by rw [c3 3 1 (by omega)]; exact hP.p (by decide)
  have c1' : f_X1_copyFrom n [(8 + 32 + 10 * 1 : Int), 100] h = some (0, h3) := c1
  rw [e_X9_keep, if_neg (by decide), if_pos (by decide), xg_pos (hP.p (by decide)), xg_pos (by decide), xg_pos (show h 8 (1 : Int).toNat = (8 + 32 + 10 * 1 : Int) from hP.p (by decide)), xg_pos (hP.p (by decide)), c1', xb_some, xg_pos e31, xg_pos e31, xg_pos (by decide), xg_pos (by decide), xg_pos (by decide), show (1 : Int).toNat = 1 from rfl, xg_pos (show 0 ≤ max (h3 6 1) (1 + 1) ∧ max (h3 6 1) (1 + 1) ≤ 2 by rw [e6]; omega)]
  refine ⟨_, rfl, ?_, c2.fr (fun a j w1 w2 => zup_ne (by omega)), fun a j w1 w2 => ?_⟩
  · show zup h3 6 1 (max (h3 6 1) (1 + 1)) 6 1 = _
    rw [zup_at, e6]
  · show zup h3 6 1 (max (h3 6 1) (1 + 1)) a j = _
    rw [zup_ne w1]
    exact c3 a j w2
theorem keep_20 {n : Nat} {t : Nat → Int} {h : yH} (hP : cP h) (hS : cQ 110 t h) (hW : tW2 t) (hm : 0 ≤ h 6 2 ∧ h 6 2 ≤ 2) : ∃ h2, f_X9_keep n [3, 80, 2, 0] h = some (0, h2) ∧ h2 6 2 = max (h 6 2) (0 + 1) ∧ cQ 60 t h2 ∧ ∀ a j, ¬ (a = 6 ∧ j = 2) → (¬ (60 ≤ a ∧ a ≤ 67) ∨ (a = 60 ∧ (j = 1 ∨ j = 2 ∨ j = 4 ∨ j = 5))) → h2 a j = h a j := by
  obtain ⟨h3, c1, c2, c3⟩ := copy2 (n := n) (d := 60) (s := 110) (t := t) (h := h) (by omega) ⟨hP.p (by decide), hP.p (by decide), hP.p (by decide), hP.p (by decide)⟩ ⟨hP.p (by decide), hP.p (by decide), hP.p (by decide), hP.p (by decide)⟩ hS hW
  have e6 : h3 6 2 = h 6 2 := c3 6 2 (by omega)
  have e31 : h3 3 1 = 6 := by rw [c3 3 1 (by omega)]; exact hP.p (by decide)
  have c1' : f_X2_copyFrom n [(9 + 51 + 10 * 0 : Int), 110] h = some (0, h3) := c1
  rw [e_X9_keep, if_neg (by decide), if_neg (by decide), xg_pos (hP.p (by decide)), xg_pos (by decide), xg_pos (show h 9 (0 : Int).toNat = (9 + 51 + 10 * 0 : Int) from hP.p (by decide)), xg_pos (hP.p (by decide)), c1', xb_some, xg_pos e31, xg_pos e31, xg_pos (by decide), xg_pos (by decide), xg_pos (by decide), show (2 : Int).toNat = 2 from rfl, xg_pos (show 0 ≤ max (h3 6 2) (0 + 1) ∧ max (h3 6 2) (0 + 1) ≤ 2 by rw [e6]; omega)]
  refine ⟨_, rfl, ?_, c2.fr (fun a j w1 w2 => zup_ne (by omega)), fun a j w1 w2 => ?_⟩
  · show zup h3 6 2 (max (h3 6 2) (0 + 1)) 6 2 = _
    rw [zup_at, e6]
  · show zup h3 6 2 (max (h3 6 2) (0 + 1)) a j = _
    rw [zup_ne w1]
    exact c3 a j w2
theorem keep_21 {n : Nat} {t : Nat → Int} {h : yH} (hP : cP h) (hS : cQ 110 t h) (hW : tW2 t) (hm : 0 ≤ h 6 2 ∧ h 6 2 ≤ 2) : ∃ h2, f_X9_keep n [3, 80, 2, 1] h = some (0, h2) ∧ h2 6 2 = max (h 6 2) (1 + 1) ∧ cQ 70 t h2 ∧ ∀ a j, ¬ (a = 6 ∧ j = 2) → (¬ (70 ≤ a ∧ a ≤ 77) ∨ (a = 70 ∧ (j = 1 ∨ j = 2 ∨ j = 4 ∨ j = 5))) → h2 a j = h a j := by
  obtain ⟨h3, c1, c2, c3⟩ := copy2 (n := n) (d := 70) (s := 110) (t := t) (h := h) (by omega) ⟨hP.p (by decide), hP.p (by decide), hP.p (by decide), hP.p (by decide)⟩ ⟨hP.p (by decide), hP.p (by decide), hP.p (by decide), hP.p (by decide)⟩ hS hW
  have e6 : h3 6 2 = h 6 2 := c3 6 2 (by omega)
  have e31 : h3 3 1 = 6 := by rw [c3 3 1 (by omega)]; exact hP.p (by decide)
  have c1' : f_X2_copyFrom n [(9 + 51 + 10 * 1 : Int), 110] h = some (0, h3) := c1
  rw [e_X9_keep, if_neg (by decide), if_neg (by decide), xg_pos (hP.p (by decide)), xg_pos (by decide), xg_pos (show h 9 (1 : Int).toNat = (9 + 51 + 10 * 1 : Int) from hP.p (by decide)), xg_pos (hP.p (by decide)), c1', xb_some, xg_pos e31, xg_pos e31, xg_pos (by decide), xg_pos (by decide), xg_pos (by decide), show (2 : Int).toNat = 2 from rfl, xg_pos (show 0 ≤ max (h3 6 2) (1 + 1) ∧ max (h3 6 2) (1 + 1) ≤ 2 by rw [e6]; omega)]
  refine ⟨_, rfl, ?_, c2.fr (fun a j w1 w2 => zup_ne (by omega)), fun a j w1 w2 => ?_⟩
  · show zup h3 6 2 (max (h3 6 2) (1 + 1)) 6 2 = _
    rw [zup_at, e6]
  · show zup h3 6 2 (max (h3 6 2) (1 + 1)) a j = _
    rw [zup_ne w1]
    exact c3 a j w2
end
section
variable {η : zRn}
/-! sureCouples: the loop that goes on as long as something grows -/
theorem zu_X12_sureCouples_2 : decode cX12_sureCouples 2 = .ok (.iload_n 1, 1) := by decide +kernel
theorem zu_X12_sureCouples_3 : decode cX12_sureCouples 3 = .ok (.ifCond .eq 99, 3) := by decide +kernel
theorem zu_X12_sureCouples_6 : decode cX12_sureCouples 6 = .ok (.iconst 0, 1) := by decide +kernel
theorem zu_X12_sureCouples_7 : decode cX12_sureCouples 7 = .ok (.istore_n 1, 1) := by decide +kernel
theorem zu_X12_sureCouples_8 : decode cX12_sureCouples 8 = .ok (.iconst 0, 1) := by decide +kernel
theorem zu_X12_sureCouples_9 : decode cX12_sureCouples 9 = .ok (.istore_n 2, 1) := by decide +kernel
theorem zu_X12_sureCouples_10 : decode cX12_sureCouples 10 = .ok (.iload_n 2, 1) := by decide +kernel
theorem zu_X12_sureCouples_11 : decode cX12_sureCouples 11 = .ok (.aload_n 0, 1) := by decide +kernel
theorem zu_X12_sureCouples_12 : decode cX12_sureCouples 12 = .ok (.getfield 439, 3) := by decide +kernel
theorem zu_X12_sureCouples_15 : decode cX12_sureCouples 15 = .ok (.if_icmp .ge 84, 3) := by decide +kernel
theorem zu_X12_sureCouples_18 : decode cX12_sureCouples 18 = .ok (.aload_n 0, 1) := by decide +kernel
theorem zu_X12_sureCouples_19 : decode cX12_sureCouples 19 = .ok (.getfield 99, 3) := by decide +kernel
theorem zu_X12_sureCouples_22 : decode cX12_sureCouples 22 = .ok (.iload_n 2, 1) := by decide +kernel
theorem zu_X12_sureCouples_23 : decode cX12_sureCouples 23 = .ok (.iaload, 1) := by decide +kernel
theorem zu_X12_sureCouples_24 : decode cX12_sureCouples 24 = .ok (.istore_n 3, 1) := by decide +kernel
theorem zu_X12_sureCouples_25 : decode cX12_sureCouples 25 = .ok (.iconst 0, 1) := by decide +kernel
theorem zu_X12_sureCouples_26 : decode cX12_sureCouples 26 = .ok (.istore 4, 2) := by decide +kernel
theorem zu_X12_sureCouples_28 : decode cX12_sureCouples 28 = .ok (.iload 4, 2) := by decide +kernel
theorem zu_X12_sureCouples_30 : decode cX12_sureCouples 30 = .ok (.aload_n 0, 1) := by decide +kernel
theorem zu_X12_sureCouples_31 : decode cX12_sureCouples 31 = .ok (.getfield 439, 3) := by decide +kernel
theorem zu_X12_sureCouples_34 : decode cX12_sureCouples 34 = .ok (.if_icmp .ge 32, 3) := by decide +kernel
theorem zu_X12_sureCouples_37 : decode cX12_sureCouples 37 = .ok (.iload_n 3, 1) := by decide +kernel
theorem zu_X12_sureCouples_38 : decode cX12_sureCouples 38 = .ok (.iload_n 3, 1) := by decide +kernel
theorem zu_X12_sureCouples_39 : decode cX12_sureCouples 39 = .ok (.iload 4, 2) := by decide +kernel
theorem zu_X12_sureCouples_41 : decode cX12_sureCouples 41 = .ok (.invokestatic 121, 3) := by decide +kernel
theorem zu_X12_sureCouples_44 : decode cX12_sureCouples 44 = .ok (.ifCond .eq 13, 3) := by decide +kernel
theorem zu_X12_sureCouples_47 : decode cX12_sureCouples 47 = .ok (.aload_n 0, 1) := by decide +kernel
theorem zu_X12_sureCouples_48 : decode cX12_sureCouples 48 = .ok (.getfield 99, 3) := by decide +kernel
theorem zu_X12_sureCouples_51 : decode cX12_sureCouples 51 = .ok (.iload 4, 2) := by decide +kernel
theorem zu_X12_sureCouples_53 : decode cX12_sureCouples 53 = .ok (.iaload, 1) := by decide +kernel
theorem zu_X12_sureCouples_54 : decode cX12_sureCouples 54 = .ok (.goto 4, 3) := by decide +kernel
theorem zu_X12_sureCouples_57 : decode cX12_sureCouples 57 = .ok (.iconst 0, 1) := by decide +kernel
theorem zu_X12_sureCouples_58 : decode cX12_sureCouples 58 = .ok (.ior, 1) := by decide +kernel
theorem zu_X12_sureCouples_59 : decode cX12_sureCouples 59 = .ok (.istore_n 3, 1) := by decide +kernel
theorem zu_X12_sureCouples_60 : decode cX12_sureCouples 60 = .ok (.iinc 4 1, 3) := by decide +kernel
theorem zu_X12_sureCouples_63 : decode cX12_sureCouples 63 = .ok (.goto (-35), 3) := by decide +kernel
theorem zu_X12_sureCouples_66 : decode cX12_sureCouples 66 = .ok (.iload_n 1, 1) := by decide +kernel
theorem zu_X12_sureCouples_67 : decode cX12_sureCouples 67 = .ok (.ifCond .ne 13, 3) := by decide +kernel
theorem zu_X12_sureCouples_70 : decode cX12_sureCouples 70 = .ok (.iload_n 3, 1) := by decide +kernel
theorem zu_X12_sureCouples_71 : decode cX12_sureCouples 71 = .ok (.aload_n 0, 1) := by decide +kernel
theorem zu_X12_sureCouples_72 : decode cX12_sureCouples 72 = .ok (.getfield 99, 3) := by decide +kernel
theorem zu_X12_sureCouples_75 : decode cX12_sureCouples 75 = .ok (.iload_n 2, 1) := by decide +kernel
theorem zu_X12_sureCouples_76 : decode cX12_sureCouples 76 = .ok (.iaload, 1) := by decide +kernel
theorem zu_X12_sureCouples_77 : decode cX12_sureCouples 77 = .ok (.if_icmp .eq 7, 3) := by decide +kernel
theorem zu_X12_sureCouples_80 : decode cX12_sureCouples 80 = .ok (.iconst 1, 1) := by decide +kernel
theorem zu_X12_sureCouples_81 : decode cX12_sureCouples 81 = .ok (.goto 4, 3) := by decide +kernel
theorem zu_X12_sureCouples_84 : decode cX12_sureCouples 84 = .ok (.iconst 0, 1) := by decide +kernel
theorem zu_X12_sureCouples_85 : decode cX12_sureCouples 85 = .ok (.istore_n 1, 1) := by decide +kernel
theorem zu_X12_sureCouples_86 : decode cX12_sureCouples 86 = .ok (.aload_n 0, 1) := by decide +kernel
theorem zu_X12_sureCouples_87 : decode cX12_sureCouples 87 = .ok (.getfield 99, 3) := by decide +kernel
theorem zu_X12_sureCouples_90 : decode cX12_sureCouples 90 = .ok (.iload_n 2, 1) := by decide +kernel
theorem zu_X12_sureCouples_91 : decode cX12_sureCouples 91 = .ok (.iload_n 3, 1) := by decide +kernel
theorem zu_X12_sureCouples_92 : decode cX12_sureCouples 92 = .ok (.iastore, 1) := by decide +kernel
theorem zu_X12_sureCouples_93 : decode cX12_sureCouples 93 = .ok (.iinc 2 1, 3) := by decide +kernel
theorem zu_X12_sureCouples_96 : decode cX12_sureCouples 96 = .ok (.goto (-86), 3) := by decide +kernel
theorem zu_X12_sureCouples_99 : decode cX12_sureCouples 99 = .ok (.goto (-97), 3) := by decide +kernel
theorem zu_X12_isIn_0 : decode cX12_isIn 0 = .ok (.iload_n 0, 1) := by decide +kernel
theorem zu_X12_isIn_1 : decode cX12_isIn 1 = .ok (.iload_n 1, 1) := by decide +kernel
theorem zu_X12_isIn_2 : decode cX12_isIn 2 = .ok (.ishr, 1) := by decide +kernel
theorem zu_X12_isIn_3 : decode cX12_isIn 3 = .ok (.iconst 1, 1) := by decide +kernel
theorem zu_X12_isIn_4 : decode cX12_isIn 4 = .ok (.iand, 1) := by decide +kernel
theorem zu_X12_isIn_5 : decode cX12_isIn 5 = .ok (.iconst 1, 1) := by decide +kernel
theorem zu_X12_isIn_6 : decode cX12_isIn 6 = .ok (.if_icmp .ne 7, 3) := by decide +kernel
theorem zu_X12_isIn_9 : decode cX12_isIn 9 = .ok (.iconst 1, 1) := by decide +kernel
theorem zu_X12_isIn_10 : decode cX12_isIn 10 = .ok (.goto 4, 3) := by decide +kernel
theorem zu_X12_isIn_13 : decode cX12_isIn 13 = .ok (.iconst 0, 1) := by decide +kernel
theorem zu_X12_isIn_14 : decode cX12_isIn 14 = .ok (.ireturn, 1) := by decide +kernel
set_option maxRecDepth 100000 in
theorem zqh_X12_isIn : lw_tbl[1643]? = some (.code yX12_isIn cX12_isIn 2 (some .boolean)) := rfl
theorem zwh_X12_isIn : zMS yX12_isIn cX12_isIn 2 (some .boolean) 2 := ⟨⟨zTin 113 (by decide +kernel) rfl, zTin 1643 zqh_X12_isIn rfl, ⟨by decide, by decide⟩, by decide +kernel⟩, zTin 1642 (by decide +kernel) rfl⟩
theorem zyt_121 : Cond.methodLink RX12 121 yX12_isIn ∈ zTW := zTin 1641 (by decide +kernel) rfl
abbrev zKbh : zKD := (1, 0, 9, [(0, 0, 511)])
theorem zkbh : zkdm[29]? = some zKbh := rfl
theorem zty_behind : zty zKM 58 = (31, 0, 2147483647) := by decide +kernel
theorem zty_sayings : zty zKM 56 = (0, 0, 9) := by decide +kernel
theorem zfh_99 : zFok RX12 zTW vwCl (99, 12, 58, none) := ⟨RX12, TX12, 64, rfl, zx_12, by decide, zTin 1357 (by decide +kernel) rfl, fun _ h => by cases h⟩
theorem zfh_439 : zFok RX12 zTW vwCl (439, 12, 56, (some .int)) := ⟨RX12, TX12, 64, rfl, zx_12, by decide, zTin 1355 (by decide +kernel) rfl, fun ty h => ⟨rfl, tyX12, tyX12_ok, nmX12, by cases h; rfl⟩⟩
theorem zisB {v k : Int32} : FrameBlind (va_Pc [.int v, .int k] (fun _ : State => True)) := fun _ _ _ _ q => ⟨q.1, trivial⟩
set_option maxHeartbeats 4000000 in
theorem zS_isIn (l : Launch) (v k : Int32) : Met l yX12_isIn (Cond.code yX12_isIn cX12_isIn 2 (some .boolean) :: zTW) ({ frames := 0, cells := 0, slots := 0, locals := 0 } : Room) (va_Pc [.int v, .int k] (fun _ : State => True)) (vp_Si (fun r => r = 0 ∨ r = 1)) 0 0 (fun _ => False) := by
  refine Met.ofW (cc := cX12_isIn) (maxL := 2) (ret := (some .boolean)) (by decide +kernel) rfl ?_
  intro p e s m args below meth c s₁ B hml hv
  obtain ⟨rfl, -⟩ := hv
  have hx := B.exec
  have hb := B.bytes
  have hr := B.returns
  have hts0 := atoms_spec (ws := Cond.code yX12_isIn cX12_isIn 2 (some .boolean) :: zTW) B.pre
  have hts : ∀ w ∈ zTW, w.before _ s = true := fun w hw => hts0 w (List.mem_cons_of_mem _ hw)
  have hown : s.vm.findClass RX12 = some m.cls := findClass_of_methodNamed B.named
  have hlocks := B.notSynchronized
  have hl := lv_entry ([.int v, .int k]) (n := 2) (Nat.le_of_ble_eq_true rfl)
  rw [lg_entry_eq]
  generalize (lg_sl ([.int v, .int k]) ++ List.replicate (2 - (lg_sl ([.int v, .int k])).length) Slot.unset).toArray = ls at hl ⊢
  have hl : lv_has ls 2 [(0, .int v), (1, .int k)] := hl
  refine lv_iload_n hx hb zu_X12_isIn_0 rfl (lv_at hl 0 rfl) ?_
  refine lv_iload_n hx hb zu_X12_isIn_1 rfl (lv_at hl 1 rfl) ?_
  refine lv_ishr hx hb zu_X12_isIn_2 ?_
  refine lv_iconst (v := 1) hx hb zu_X12_isIn_3 (by decide +kernel) ?_
  refine lv_iand hx hb zu_X12_isIn_4 ?_
  refine lv_iconst (v := 1) hx hb zu_X12_isIn_5 (by decide +kernel) ?_
  refine lv_icmp_ne (tgt := 13) hx hb zu_X12_isIn_6 (by decide) (fun _ => ?_) (fun _ => ?_)
  · refine lv_iconst (v := 0) hx hb zu_X12_isIn_13 (by decide +kernel) ?_
    exact W.zret (v := 0) hx hb hr (by decide +kernel) (fun t ht hW => ⟨0, rfl, Or.inl rfl, ht⟩) (fun _ h => absurd h List.not_mem_nil) zu_X12_isIn_14
  · refine lv_iconst (v := 1) hx hb zu_X12_isIn_9 (by decide +kernel) ?_
    refine lv_goto (tgt := 14) hx hb zu_X12_isIn_10 (by decide) ?_
    exact W.zret (v := 1) hx hb hr (by decide +kernel) (fun t ht hW => ⟨1, rfl, Or.inr rfl, ht⟩) (fun _ h => absurd h List.not_mem_nil) zu_X12_isIn_14
section HWI
variable {D : va_G} {cy : Nat → ClassId} {L : List Nat} {H : Heap} {locs : List Loc}
variable {p : Program} {l : Launch} {e : Env} {R : Room} {s : State} {m : MethodId} {args : Array Value} {below : List Frame} {meth : Method} {c : Code} {Q : State → Prop}
variable {cc : ByteArray} {pc nL : Nat} {ls : Array Slot} {rest : List Value}
theorem hw_isIn (X : hCx D vwCl cy L p s m args c cc nL (tyW cy) zTW RX12) (hsz : ls.size = nL) (hf : 1 ≤ R.frames) (hlo : 21 ≤ R.locals) (hrest : (rest.map (fun v => v.category)).sum ≤ 8) {idx : Nat} {v k : Int32} (hlk : Cond.methodLink RX12 idx yX12_isIn ∈ zTW) (hdg : decode cc pc = .ok (.invokestatic idx, 3))
    (w : ∀ r : Int32, r = 0 ∨ r = 1 → W p l e R s m args below meth c H locs 0 0 Q (F0 m (pc + 3) ls (.int r :: rest))) : W p l e R s m args below meth c H locs 0 0 Q (F0 m pc ls (.int k :: .int v :: rest)) := by
  obtain ⟨hexec, hb, hml, hts, hown, hKa, hT, hnd⟩ := X
  exact pc_i (va_runS (n := 2) (As := [.int v, .int k]) (rest := rest) (bytes := cX12_isIn) (maxL := 2) (ret := some .boolean) ⟨hexec, hb, hml, hown, hts⟩ (zS_isIn l v k) ⟨callB_of _ hts (z_good0 zwh_X12_isIn.1.2.1) rfl rfl rfl (hts _ zwh_X12_isIn.1.1) (hts _ hlk) ⟨zwh_X12_isIn.1.2.2.1.1, zwh_X12_isIn.1.2.2.1.2, zwh_X12_isIn.1.2.2.2⟩ ⟨hf, hlo⟩, hts _ zwh_X12_isIn.2⟩ ⟨zisB, fun U hU hW => ⟨rfl, trivial⟩⟩ rfl rfl hsz rfl (by simpa using hrest) hdg ⟨Nat.zero_le _, Nat.zero_le _⟩) w
end HWI
/-- the sum of the nine -/
def zS9 (h : Nat → Nat → Int) (b : Nat) : Int := h b 0 + h b 1 + h b 2 + h b 3 + h b 4 + h b 5 + h b 6 + h b 7 + h b 8
theorem zS9_up {h : Nat → Nat → Int} {b k : Nat} {x : Int} (hk : k < 9) : zS9 (zup h b k x) b = zS9 h b - h b k + x := by
  unfold zS9
  rcases (show k = 0 ∨ k = 1 ∨ k = 2 ∨ k = 3 ∨ k = 4 ∨ k = 5 ∨ k = 6 ∨ k = 7 ∨ k = 8 by omega) with rfl | rfl | rfl | rfl | rfl | rfl | rfl | rfl | rfl <;> simp [zup] <;> omega
theorem z_or511 {x y : Int} (h1 : 0 ≤ x ∧ x ≤ 511) (h2 : 0 ≤ y ∧ y ≤ 511) : ∃ z : Int, (Int32.ofInt x ||| Int32.ofInt y) = Int32.ofInt z ∧ x ≤ z ∧ z ≤ 511 := by
  have e1 := z_toi (x := x) (by omega) (by omega)
  have e2 := z_toi (x := y) (by omega) (by omega)
  have := z_or (x := Int32.ofInt x) (y := Int32.ofInt y) (n := 511) (by omega) (by omega) (by omega) (by omega) (by omega)
  have em : (zmask 511 : Nat) = 511 := by decide
  rw [em] at this
  exact ⟨(Int32.ofInt x ||| Int32.ofInt y).toInt, (z_ofi _).symm, by omega, by omega⟩
theorem z_bhb {D : va_G} {cy : Nat → ClassId} {L : List Nat} {Θ : Nat → Option Nat} {h : Nat → Nat → Int} {H : Heap} (hH : zH η zkdm D vwCl cy L Θ h H) {b : Nat} (hb : Θ b = some 29) {j : Nat} (hj : j < 9) : 0 ≤ h b j ∧ h b j ≤ 511 := by
  have h1 := zH_in hH hb zkbh (j := j) hj
  have e1 : zty zKbh j = (0, 0, 511) := by unfold zty; simp [Nat.mod_one]
  rw [e1] at h1
  exact h1.2
set_option maxHeartbeats 4000000 in
/-- what is ahead of one, over the others -/
theorem zsc_in {p : Program} {l : Launch} {e : Env} {R : Room} {s : State} {m : MethodId} {args : Array Value} {below : List Frame} {meth : Method} {c : Code} {Q : State → Prop} {D : va_G} {cy : Nat → ClassId} {L : List Nat} {Θ : Nat → Option Nat} (X : hCx D vwCl cy L p s m args c cX12_sureCouples 5 (tyW cy) zTW RX12) (hf : 1 ≤ R.frames) (hlo : 21 ≤ R.locals) {a bh : Nat} (ha : Θ a = some 35) (hb9 : Θ bh = some 29) {h : Nat → Nat → Int} {H : Heap} {locs : List Loc} (hH : zH η zkdm D vwCl cy L Θ h H) (hbh : h a 58 = (bh : Int)) (hn : 0 ≤ h a 56 ∧ h a 56 ≤ 9) (lw : Int) (v1 v2 : Int32)
    (K : ∀ (st : Int) (ls : Array Slot) (i : Int32), lw ≤ st → st ≤ 511 → lv_has ls 5 [(4, .int i), (3, .int (Int32.ofInt st)), (2, .int v2), (1, .int v1), (0, .ref (η.1 a))] → W p l e R s m args below meth c H locs 0 0 Q (F0 m 66 ls [])) :
    ∀ (f : Nat) (i st : Int) (ls : Array Slot), h a 56 - i ≤ (f : Int) → 0 ≤ i → i ≤ h a 56 → 0 ≤ st → lw ≤ st → st ≤ 511 → lv_has ls 5 [(4, .int (Int32.ofInt i)), (3, .int (Int32.ofInt st)), (2, .int v2), (1, .int v1), (0, .ref (η.1 a))] → W p l e R s m args below meth c H locs 0 0 Q (F0 m 28 ls []) := by
  have hx := X.1
  have hb := X.2.1
  intro f
  induction f with
  | zero =>
    intro i st ls hf2 hi0 hi hs0 hs1 hs2 hl
    refine lv_iload hx hb zu_X12_sureCouples_28 (lv_at hl 0 rfl) ?_
    refine lv_aload_n hx hb zu_X12_sureCouples_30 rfl (lv_at hl 4 rfl) ?_
    refine hw_get X zfh_439 ha zkm ⟨rfl, rfl⟩ (by decide) hH zu_X12_sureCouples_31 ?_
    rw [zty_sayings, z_d0]
    refine lv_icmp_ge (tgt := 66) hx hb zu_X12_sureCouples_34 (by decide) (fun _ => ?_) (fun hc => absurd ((z_le32 (by omega) (by omega)).mpr (by omega)) hc)
    exact K st ls _ hs1 hs2 hl
  | succ f ih =>
    intro i st ls hf2 hi0 hi hs0 hs1 hs2 hl
    refine lv_iload hx hb zu_X12_sureCouples_28 (lv_at hl 0 rfl) ?_
    refine lv_aload_n hx hb zu_X12_sureCouples_30 rfl (lv_at hl 4 rfl) ?_
    refine hw_get X zfh_439 ha zkm ⟨rfl, rfl⟩ (by decide) hH zu_X12_sureCouples_31 ?_
    rw [zty_sayings, z_d0]
    refine lv_icmp_ge (tgt := 66) hx hb zu_X12_sureCouples_34 (by decide) (fun _ => K st ls _ hs1 hs2 hl) (fun hc => ?_)
    have hlt : i < h a 56 := by
      apply Int.not_le.mp
      intro q
      exact hc ((z_le32 (by omega) (by omega)).mpr q)
    -- the rest of a turn
    have fin : ∀ x : Int, 0 ≤ x → x ≤ 511 → W p l e R s m args below meth c H locs 0 0 Q (F0 m 58 ls [.int (Int32.ofInt x), .int (Int32.ofInt st)]) := by
      intro x hx0 hx1
      obtain ⟨z, e1, e2, e3⟩ := z_or511 (x := st) (y := x) (by omega) (by omega)
      refine lv_ior hx hb zu_X12_sureCouples_58 ?_
      rw [e1]
      refine lv_istore_n (lv' := [(3, .int (Int32.ofInt z)), (4, .int (Int32.ofInt i)), (2, .int v2), (1, .int v1), (0, .ref (η.1 a))]) hx hb zu_X12_sureCouples_59 rfl hl (by decide) rfl (fun ls hl => ?_)
      have en : Int32.ofInt i + 1 = Int32.ofInt (i + 1) := by rw [show (1 : Int32) = Int32.ofInt 1 from rfl, z_adi (by omega) (by omega) (by omega)]
      refine lv_iinc (v := Int32.ofInt (i + 1)) (lv' := [(4, .int (Int32.ofInt (i + 1))), (3, .int (Int32.ofInt z)), (2, .int v2), (1, .int v1), (0, .ref (η.1 a))]) hx hb zu_X12_sureCouples_60 hl (k := 1) rfl (by rw [← en]; rfl) (by decide) rfl (fun ls hl => ?_)
      refine lv_goto (tgt := 28) hx hb zu_X12_sureCouples_63 (by decide) ?_
      exact ih (i + 1) z ls (by omega) (by omega) (by omega) (by omega) (by omega) e3 hl
    refine lv_iload_n hx hb zu_X12_sureCouples_37 rfl (lv_at hl 1 rfl) ?_
    refine lv_iload_n hx hb zu_X12_sureCouples_38 rfl (lv_at hl 1 rfl) ?_
    refine lv_iload hx hb zu_X12_sureCouples_39 (lv_at hl 0 rfl) ?_
    refine hw_isIn X hl.1 hf hlo (Nat.le_of_ble_eq_true rfl) zyt_121 zu_X12_sureCouples_41 (fun r hr => ?_)
    refine lv_if_eq (tgt := 57) hx hb zu_X12_sureCouples_44 (by decide) (fun _ => ?_) (fun _ => ?_)
    · refine lv_iconst (v := Int32.ofInt 0) hx hb zu_X12_sureCouples_57 (by decide) ?_
      exact fin 0 (by decide) (by decide)
    · refine lv_aload_n hx hb zu_X12_sureCouples_47 rfl (lv_at hl 4 rfl) ?_
      refine hw_get X zfh_99 ha zkm ⟨rfl, rfl⟩ (by decide) hH zu_X12_sureCouples_48 ?_
      rw [zty_behind, hbh]
      simp only
      rw [z_dr 29 bh]
      refine lv_iload hx hb zu_X12_sureCouples_51 (lv_at hl 0 rfl) ?_
      have ti : (Int32.ofInt i).toInt = i := z_toi (by omega) (by omega)
      refine hw_iald X hb9 zkbh ⟨rfl, rfl⟩ (by rw [ti]; exact ⟨hi0, by simp only; omega⟩) hH zu_X12_sureCouples_53 ?_
      refine lv_goto (tgt := 58) hx hb zu_X12_sureCouples_54 (by decide) ?_
      have hbd := z_bhb hH hb9 (j := (Int32.ofInt i).toInt.toNat) (by rw [ti]; omega)
      exact fin _ hbd.1 hbd.2
end
section
/-! the class: text() -/
theorem numberFor_e {n : Nat} {sort at_ : Int} {h : yH} (hP : cP h) (hm : ∀ j, j < 3 → 0 ≤ h 6 j ∧ h 6 j ≤ 2) : f_X9_numberFor n [3, sort, at_] h = some (txK (h 6) sort at_, h) := by
  have p31 := hP.p (a := 3) (j := 1) (v := 6) (by decide)
  rw [e_X9_numberFor]
  unfold txK
  by_cases h1 : sort < 0
  · rw [if_pos h1, if_neg (show ¬ (0 ≤ sort ∧ sort ≤ 2) by omega)]
  · rw [if_neg h1]
    by_cases h2 : sort < 3
    · have hb := hm sort.toNat (by omega)
      rw [if_pos h2, if_pos (show 0 ≤ sort ∧ sort ≤ 2 by omega)]
      by_cases h3 : at_ = -1
      · rw [if_pos h3, if_pos h3, xg_pos p31, xg_pos (by omega)]
        by_cases h4 : h 6 sort.toNat < 2
        · rw [if_pos h4, xg_pos p31, xg_pos (by omega), if_neg (show ¬ h 6 sort.toNat = 2 by omega)]
        · rw [if_neg h4, if_pos (show h 6 sort.toNat = 2 by omega)]
      · rw [if_neg h3, if_neg h3]
        by_cases h4 : at_ < 0
        · rw [if_pos h4, if_neg (show ¬ (0 ≤ at_ ∧ at_ < h 6 sort.toNat) by omega)]
        · rw [if_neg h4, xg_pos p31, xg_pos (by omega)]
          by_cases h5 : at_ < h 6 sort.toNat
          · rw [if_pos h5, if_pos (show 0 ≤ at_ ∧ at_ < h 6 sort.toNat by omega)]
          · rw [if_neg h5, if_neg (show ¬ (0 ≤ at_ ∧ at_ < h 6 sort.toNat) by omega)]
    · rw [if_neg h2, if_neg (show ¬ (0 ≤ sort ∧ sort ≤ 2) by omega)]
theorem txK_b {m : Nat → Int} {sort at_ : Int} (hm : ∀ j, j < 3 → 0 ≤ m j ∧ m j ≤ 2) (hk : txK m sort at_ ≠ -2) : (0 ≤ sort ∧ sort ≤ 2) ∧ 0 ≤ txK m sort at_ ∧ txK m sort at_ < 2 := by
  unfold txK at hk ⊢
  by_cases h1 : 0 ≤ sort ∧ sort ≤ 2
  · have hb := hm sort.toNat (by omega)
    rw [if_pos h1] at hk ⊢
    refine ⟨h1, ?_⟩
    by_cases h2 : at_ = -1
    · rw [if_pos h2] at hk ⊢
      by_cases h3 : m sort.toNat = 2
      · rw [if_pos h3] at hk
        exact absurd rfl hk
      · rw [if_neg h3]
        omega
    · rw [if_neg h2] at hk ⊢
      by_cases h3 : 0 ≤ at_ ∧ at_ < m sort.toNat
      · rw [if_pos h3]
        omega
      · rw [if_neg h3] at hk
        exact absurd rfl hk
  · rw [if_neg h1] at hk
    exact absurd rfl hk
/-- of pointers all cells of a kept one are known -/
theorem cF_k {P : Nat → Nat → Prop} (H : ∀ p ∈ cPL, P p.1 p.2.1) {a j : Nat} (w : cF a j = true) : P a j := by
  obtain ⟨p, hp, e⟩ := List.any_eq_true.mp w
  have e1 : p.1 = a ∧ p.2.1 = j := by simpa using e
  have := H p hp
  rw [e1.1, e1.2] at this
  exact this
/-- what keep() leaves -/
theorem keepC_e {n of k : Nat} {t : Nat → Int} {h : yH} (hof : of ≤ 2) (hk : k < 2) (hP : cP h) (hr : cR of t h) (hW : tWf of t) (hm : 0 ≤ h 6 of ∧ h 6 of ≤ 2) : ∃ h2, f_X9_keep n [3, 80, (of : Int), (k : Int)] h = some (0, h2) ∧ h2 6 of = max (h 6 of) ((k : Int) + 1) ∧ cO of k t h2 ∧ cP h2 ∧ ∀ a j, ¬ (a = 6 ∧ j = of) → ¬ (20 + 20 * of + 10 * k ≤ a ∧ a ≤ 27 + 20 * of + 10 * k) → h2 a j = h a j := by
  rcases (show of = 0 ∨ of = 1 ∨ of = 2 by omega) with rfl | rfl | rfl
  · rcases (show k = 0 ∨ k = 1 by omega) with rfl | rfl
    · obtain ⟨h2, a1, a2, a3, a4⟩ := keep_00 (n := n) hP (hr.1 rfl) (hW.1 rfl) hm
      refine ⟨h2, a1, a2, ⟨fun _ => a3, fun e => absurd e (by decide), fun e => absurd e (by decide)⟩, hP.fr (fun a j w => a4 a j (fun e => by rw [e.1, e.2] at w; exact absurd w (by decide)) ?_), fun a j w1 w2 => a4 a j w1 (Or.inl (by omega))⟩
      exact cF_k (P := fun a j => ¬ (20 ≤ a ∧ a ≤ 27) ∨ (a = 20 ∧ (j = 5 ∨ j = 7 ∨ j = 8 ∨ j = 9 ∨ j = 11 ∨ j = 12 ∨ j = 13))) (by decide +kernel) w
    · obtain ⟨h2, a1, a2, a3, a4⟩ := keep_01 (n := n) hP (hr.1 rfl) (hW.1 rfl) hm
      refine ⟨h2, a1, a2, ⟨fun _ => a3, fun e => absurd e (by decide), fun e => absurd e (by decide)⟩, hP.fr (fun a j w => a4 a j (fun e => by rw [e.1, e.2] at w; exact absurd w (by decide)) ?_), fun a j w1 w2 => a4 a j w1 (Or.inl (by omega))⟩
      exact cF_k (P := fun a j => ¬ (30 ≤ a ∧ a ≤ 37) ∨ (a = 30 ∧ (j = 5 ∨ j = 7 ∨ j = 8 ∨ j = 9 ∨ j = 11 ∨ j = 12 ∨ j = 13))) (by decide +kernel) w
  · rcases (show k = 0 ∨ k = 1 by omega) with rfl | rfl
    · obtain ⟨h2, a1, a2, a3, a4⟩ := keep_10 (n := n) hP (hr.2.1 rfl) (hW.2.1 rfl) hm
      refine ⟨h2, a1, a2, ⟨fun e => absurd e (by decide), fun _ => a3, fun e => absurd e (by decide)⟩, hP.fr (fun a j w => a4 a j (fun e => by rw [e.1, e.2] at w; exact absurd w (by decide)) ?_), fun a j w1 w2 => a4 a j w1 (Or.inl (by omega))⟩
      exact cF_k (P := fun a j => ¬ (40 ≤ a ∧ a ≤ 47) ∨ (a = 40 ∧ (j = 1 ∨ j = 2))) (by decide +kernel) w
    · obtain ⟨h2, a1, a2, a3, a4⟩ := keep_11 (n := n) hP (hr.2.1 rfl) (hW.2.1 rfl) hm
      refine ⟨h2, a1, a2, ⟨fun e => absurd e (by decide), fun _ => a3, fun e => absurd e (by decide)⟩, hP.fr (fun a j w => a4 a j (fun e => by rw [e.1, e.2] at w; exact absurd w (by decide)) ?_), fun a j w1 w2 => a4 a j w1 (Or.inl (by omega))⟩
      exact cF_k (P := fun a j => ¬ (50 ≤ a ∧ a ≤ 57) ∨ (a = 50 ∧ (j = 1 ∨ j = 2))) (by decide +kernel) w
  · rcases (show k = 0 ∨ k = 1 by omega) with rfl | rfl
    · obtain ⟨h2, a1, a2, a3, a4⟩ := keep_20 (n := n) hP (hr.2.2 rfl) (hW.2.2 rfl) hm
      refine ⟨h2, a1, a2, ⟨fun e => absurd e (by decide), fun e => absurd e (by decide), fun _ => a3⟩, hP.fr (fun a j w => a4 a j (fun e => by rw [e.1, e.2] at w; exact absurd w (by decide)) ?_), fun a j w1 w2 => a4 a j w1 (Or.inl (by omega))⟩
      exact cF_k (P := fun a j => ¬ (60 ≤ a ∧ a ≤ 67) ∨ (a = 60 ∧ (j = 1 ∨ j = 2 ∨ j = 4 ∨ j = 5))) (by decide +kernel) w
    · obtain ⟨h2, a1, a2, a3, a4⟩ := keep_21 (n := n) hP (hr.2.2 rfl) (hW.2.2 rfl) hm
      refine ⟨h2, a1, a2, ⟨fun e => absurd e (by decide), fun e => absurd e (by decide), fun _ => a3⟩, hP.fr (fun a j w => a4 a j (fun e => by rw [e.1, e.2] at w; exact absurd w (by decide)) ?_), fun a j w1 w2 => a4 a j w1 (Or.inl (by omega))⟩
      exact cF_k (P := fun a j => ¬ (70 ≤ a ∧ a ≤ 77) ∨ (a = 70 ∧ (j = 1 ∨ j = 2 ∨ j = 4 ∨ j = 5))) (by decide +kernel) w
/-- what text() leaves -/
def cxR (sort at_ : Int) (h : yH) (R : (Int × Int) × (Nat → Int)) (v : Int) (h2 : yH) : Prop :=
  cP h2 ∧ h2 4 1 = 0 ∧ (∀ a j, ¬ (a = 4 ∧ j = 1) → ¬ (a = 3 ∧ (j = 5 ∨ j = 6)) → ¬ (6 ≤ a ∧ a ≤ 121) → h2 a j = h a j) ∧
  ((txK (h 6) sort at_ = -2 ∧ v = -2 ∧ h2 3 5 = 0 ∧ h2 3 6 = -1 ∧ ∀ a j, 6 ≤ a ∧ a ≤ 79 → h2 a j = h a j) ∨
   (txK (h 6) sort at_ ≠ -2 ∧ h2 3 5 = R.1.1 ∧ h2 3 6 = R.1.2 ∧ ((R.1.1 ≠ 0 ∧ v = -1 ∧ ∀ a j, 6 ≤ a ∧ a ≤ 79 → h2 a j = h a j) ∨
    (R.1.1 = 0 ∧ v = txK (h 6) sort at_ ∧ tWf sort.toNat R.2 ∧ cO sort.toNat v.toNat R.2 h2 ∧ h2 6 sort.toNat = max (h 6 sort.toNat) (v + 1) ∧ ∀ a j, 6 ≤ a ∧ a ≤ 79 → ¬ (a = 6 ∧ j = sort.toNat) → ¬ (20 + 20 * sort.toNat + 10 * v.toNat ≤ a ∧ a ≤ 27 + 20 * sort.toNat + 10 * v.toNat) → h2 a j = h a j))))
theorem textC_e {u : Nat → Int} {N n : Nat} {sort at_ : Int} {t0 : Nat → Int} {h : yH} (hn : 2800 ≤ n) (hc : cC u N h) (hm : ∀ j, j < 3 → 0 ≤ h 6 j ∧ h 6 j ≤ 2) (ht : ∀ j, j < 121 → t0 j = tI sort.toNat j) : ∃ v h2, f_X11_text n [1, sort, at_] h = some (v, h2) ∧ cxR sort at_ h (pRd u N sort.toNat 700 0 (0, -1) t0 (-1) (-1)) v h2 := by
  have hP := hc.2.2.2
  rw [e_X11_text, xg_pos (hP.p (by decide)), numberFor_e hP hm, xb_some]
  by_cases hk : txK (h 6) sort at_ = -2
  · rw [if_pos hk, xg_pos (hP.p (by decide)), e_X9_takeTape, xg_pos (hP.p (by decide)), xb_some]
    refine ⟨_, _, rfl, ((hP.up (by decide)).up (by decide)).up (by decide), by rw [zup_ne (by omega), zup_ne (by omega), zup_at], fun a j w1 w2 w3 => by rw [zup_ne (by omega), zup_ne (by omega), zup_ne (by omega)], Or.inl ⟨hk, rfl, by rw [zup_ne (by omega), zup_at], by rw [zup_at], fun a j w => by rw [zup_ne (by omega), zup_ne (by omega), zup_ne (by omega)]⟩⟩
  · obtain ⟨hs, hk0, hk2⟩ := txK_b hm hk
    obtain ⟨of, rfl⟩ : ∃ of : Nat, sort = (of : Int) := ⟨sort.toNat, by omega⟩
    rw [Int.toNat_natCast] at ht ⊢
    have hof : of ≤ 2 := by omega
    obtain ⟨k, ek⟩ : ∃ k : Nat, txK (h 6) (of : Int) at_ = (k : Int) := ⟨(txK (h 6) (of : Int) at_).toNat, by omega⟩
    obtain ⟨g, r1, r2, r3, r4⟩ := read_e (n := n) hof hn hc ht
    rw [if_neg hk, xg_pos (hP.p (by decide)), xg_pos (hP.p (by decide)), xg_pos (hP.p (by decide)), r1, xb_some]
    generalize pRd u N of 700 0 (0, -1) t0 (-1) (-1) = R at r4 ⊢
    have gP := r2.2.2.2
    obtain ⟨q3, q4, t2, er, ew, et⟩ := r4
    rw [xg_pos (gP.p (by decide)), xg_pos (gP.p (by decide)), xg_pos (gP.p (by decide)), e_X9_takeTape, xg_pos (gP.p (by decide)), xb_some, q3, q4]
    have lP : cP (zup (zup (zup g 4 1 0) 3 5 R.1.1) 3 6 R.1.2) := ((gP.up (by decide)).up (by decide)).up (by decide)
    have l41 : (zup (zup (zup g 4 1 0) 3 5 R.1.1) 3 6 R.1.2) 4 1 = 0 := by rw [zup_ne (by omega), zup_ne (by omega), zup_at]
    have l35 : (zup (zup (zup g 4 1 0) 3 5 R.1.1) 3 6 R.1.2) 3 5 = R.1.1 := by rw [zup_ne (by omega), zup_at]
    have l36 : (zup (zup (zup g 4 1 0) 3 5 R.1.1) 3 6 R.1.2) 3 6 = R.1.2 := by rw [zup_at]
    have ln : ∀ a j, ¬ (a = 4 ∧ j = 1) → ¬ (a = 3 ∧ (j = 5 ∨ j = 6)) → (zup (zup (zup g 4 1 0) 3 5 R.1.1) 3 6 R.1.2) a j = g a j := fun a j w1 w2 => by rw [zup_ne (by omega), zup_ne (by omega), zup_ne (by omega)]
    generalize zup (zup (zup g 4 1 0) 3 5 R.1.1) 3 6 R.1.2 = l at *
    rw [xg_pos (lP.p (by decide)), ln 80 3 (by omega) (by omega), q3]
    have lh : ∀ a j, ¬ (a = 4 ∧ j = 1) → ¬ (a = 3 ∧ (j = 5 ∨ j = 6)) → ¬ (80 ≤ a ∧ a ≤ 121) → l a j = h a j := fun a j w1 w2 w3 => by rw [ln a j w1 w2]; exact r3 a j w3
    by_cases hz : R.1.1 = 0
    · have l6 : l 6 of = h 6 of := lh 6 of (by omega) (by omega) (by omega)
      have ett := et hz
      subst ett
      obtain ⟨h2, s1, s2, s3, s4, s5⟩ := keepC_e (n := n) (k := k) hof (by omega) lP (er.fr (fun a j w1 w2 => ln a j (by omega) (by omega))) ew (by rw [l6]; exact hm of (by omega))
      rw [if_pos hz, xg_pos (lP.p (by decide)), xg_pos (lP.p (by decide)), ek, s1, xb_some]
      refine ⟨_, h2, rfl, s4, by rw [s5 4 1 (by omega) (by omega)]; exact l41, fun a j w1 w2 w3 => by rw [s5 a j (by omega) (by omega)]; exact lh a j w1 w2 (by omega), Or.inr ⟨hk, by rw [s5 3 5 (by omega) (by omega)]; exact l35, by rw [s5 3 6 (by omega) (by omega)]; exact l36, Or.inr ⟨hz, ek.symm, by rw [Int.toNat_natCast]; exact ew, by rw [Int.toNat_natCast, Int.toNat_natCast]; exact s3, by rw [Int.toNat_natCast, s2, l6], fun a j w1 w2 w3 => ?_⟩⟩⟩
      rw [Int.toNat_natCast] at w2 w3
      rw [Int.toNat_natCast] at w3
      rw [s5 a j w2 w3]
      exact lh a j (by omega) (by omega) (by omega)
    · rw [if_neg hz]
      exact ⟨_, l, rfl, lP, l41, fun a j w1 w2 w3 => lh a j w1 w2 (by omega), Or.inr ⟨hk, l35, l36, Or.inl ⟨hz, rfl, fun a j w => lh a j (by omega) (by omega) (by omega)⟩⟩⟩
end
