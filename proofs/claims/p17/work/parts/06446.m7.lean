section
/-! the class: a text is read -/
/-- the furthest cell, boat or saying that is told of -/
def dI (d o : Int) : Prop := ((decide (o = -1) && decide (0 ≤ d) && decide (d < 1)) || (decide (o = 0) && decide (1 ≤ d) && decide (d < 2)) || (decide (o = 1) && decide (2 ≤ d) && decide (d < 4)) || (decide (o = 2) && decide (4 ≤ d) && decide (d < 8)) || (decide (o = 3) && decide (8 ≤ d) && decide (d < 16)) || (decide (o = 4) && decide (16 ≤ d) && decide (d < 32)) || (decide (o = 5) && decide (32 ≤ d) && decide (d < 64))) = true
theorem dI_b {d o : Int} (h : dI d o) : 0 ≤ d ∧ d < 64 ∧ -1 ≤ o ∧ o ≤ 5 := by
  unfold dI at h
  simp only [Bool.or_eq_true, Bool.and_eq_true, decide_eq_true_eq] at h
  omega
theorem dI_shF : ∀ d : Fin 64, ∀ b : Fin 7, ∀ o : Fin 7, ((decide (((o.val : Int) - 1) = -1) && decide (0 ≤ (d.val : Int)) && decide ((d.val : Int) < 1)) || (decide (((o.val : Int) - 1) = 0) && decide (1 ≤ (d.val : Int)) && decide ((d.val : Int) < 2)) || (decide (((o.val : Int) - 1) = 1) && decide (2 ≤ (d.val : Int)) && decide ((d.val : Int) < 4)) || (decide (((o.val : Int) - 1) = 2) && decide (4 ≤ (d.val : Int)) && decide ((d.val : Int) < 8)) || (decide (((o.val : Int) - 1) = 3) && decide (8 ≤ (d.val : Int)) && decide ((d.val : Int) < 16)) || (decide (((o.val : Int) - 1) = 4) && decide (16 ≤ (d.val : Int)) && decide ((d.val : Int) < 32)) || (decide (((o.val : Int) - 1) = 5) && decide (32 ≤ (d.val : Int)) && decide ((d.val : Int) < 64))) = true → (yari 6 (d.val : Int) (b.val : Int) = 0 ↔ ((o.val : Int) - 1) < (b.val : Int)) := by decide +kernel
theorem dI_orF : ∀ d : Fin 64, ∀ v : Fin 6, ∀ o : Fin 7, ((decide (((o.val : Int) - 1) = -1) && decide (0 ≤ (d.val : Int)) && decide ((d.val : Int) < 1)) || (decide (((o.val : Int) - 1) = 0) && decide (1 ≤ (d.val : Int)) && decide ((d.val : Int) < 2)) || (decide (((o.val : Int) - 1) = 1) && decide (2 ≤ (d.val : Int)) && decide ((d.val : Int) < 4)) || (decide (((o.val : Int) - 1) = 2) && decide (4 ≤ (d.val : Int)) && decide ((d.val : Int) < 8)) || (decide (((o.val : Int) - 1) = 3) && decide (8 ≤ (d.val : Int)) && decide ((d.val : Int) < 16)) || (decide (((o.val : Int) - 1) = 4) && decide (16 ≤ (d.val : Int)) && decide ((d.val : Int) < 32)) || (decide (((o.val : Int) - 1) = 5) && decide (32 ≤ (d.val : Int)) && decide ((d.val : Int) < 64))) = true → ((decide ((max ((o.val : Int) - 1) (v.val : Int)) = -1) && decide (0 ≤ (yari 8 (d.val : Int) (yari 5 1 (v.val : Int)))) && decide ((yari 8 (d.val : Int) (yari 5 1 (v.val : Int))) < 1)) || (decide ((max ((o.val : Int) - 1) (v.val : Int)) = 0) && decide (1 ≤ (yari 8 (d.val : Int) (yari 5 1 (v.val : Int)))) && decide ((yari 8 (d.val : Int) (yari 5 1 (v.val : Int))) < 2)) || (decide ((max ((o.val : Int) - 1) (v.val : Int)) = 1) && decide (2 ≤ (yari 8 (d.val : Int) (yari 5 1 (v.val : Int)))) && decide ((yari 8 (d.val : Int) (yari 5 1 (v.val : Int))) < 4)) || (decide ((max ((o.val : Int) - 1) (v.val : Int)) = 2) && decide (4 ≤ (yari 8 (d.val : Int) (yari 5 1 (v.val : Int)))) && decide ((yari 8 (d.val : Int) (yari 5 1 (v.val : Int))) < 8)) || (decide ((max ((o.val : Int) - 1) (v.val : Int)) = 3) && decide (8 ≤ (yari 8 (d.val : Int) (yari 5 1 (v.val : Int)))) && decide ((yari 8 (d.val : Int) (yari 5 1 (v.val : Int))) < 16)) || (decide ((max ((o.val : Int) - 1) (v.val : Int)) = 4) && decide (16 ≤ (yari 8 (d.val : Int) (yari 5 1 (v.val : Int)))) && decide ((yari 8 (d.val : Int) (yari 5 1 (v.val : Int))) < 32)) || (decide ((max ((o.val : Int) - 1) (v.val : Int)) = 5) && decide (32 ≤ (yari 8 (d.val : Int) (yari 5 1 (v.val : Int)))) && decide ((yari 8 (d.val : Int) (yari 5 1 (v.val : Int))) < 64))) = true := by decide +kernel
theorem dI_sh {d o b : Int} (h : dI d o) (hb : 0 ≤ b ∧ b ≤ 6) : yari 6 d b = 0 ↔ o < b := by
  have hd := dI_b h
  have := dI_shF ⟨d.toNat, by omega⟩ ⟨b.toNat, by omega⟩ ⟨(o + 1).toNat, by omega⟩
  simp only at this
  rw [show ((d.toNat : Nat) : Int) = d by omega, show ((b.toNat : Nat) : Int) = b by omega, show (((o + 1).toNat : Nat) : Int) - 1 = o by omega] at this
  exact this h
theorem dI_or {d o v : Int} (h : dI d o) (hv : 0 ≤ v ∧ v ≤ 5) : dI (yari 8 d (yari 5 1 v)) (max o v) := by
  have hd := dI_b h
  have := dI_orF ⟨d.toNat, by omega⟩ ⟨v.toNat, by omega⟩ ⟨(o + 1).toNat, by omega⟩
  simp only at this
  rw [show ((d.toNat : Nat) : Int) = d by omega, show ((v.toNat : Nat) : Int) = v by omega, show (((o + 1).toNat : Nat) : Int) - 1 = o by omega] at this
  exact this h
def cM0 (t : Nat → Int) (c : Int) : Prop := c = -1 ∨ (∃ k : Nat, (k : Int) < t 5 ∧ t (19 + 3 * k) = c) ∨ ∃ k : Nat, (k : Int) < t 6 ∧ t (31 + 3 * k) = c
def cM2 (t : Nat → Int) (o : Int) : Prop := o = -1 ∨ ∃ k : Nat, (k : Int) < t 1 ∧ (t (20 + 2 * k) = o ∨ t (21 + 2 * k) = o)
def cI0 (t : Nat → Int) (c o : Int) : Prop := (∀ k : Nat, (k : Int) < t 5 → t (19 + 3 * k) ≤ c) ∧ (∀ k : Nat, (k : Int) < t 6 → t (31 + 3 * k) ≤ c) ∧ cM0 t c ∧ dI (t 49) o
def cI2 (t : Nat → Int) (o : Int) : Prop := (∀ k : Nat, (k : Int) < t 1 → t (20 + 2 * k) ≤ o ∧ t (21 + 2 * k) ≤ o) ∧ cM2 t o
def cI (of : Nat) (t : Nat → Int) (c o : Int) : Prop := (of = 0 → cI0 t c o) ∧ (of = 2 → cI2 t o)
theorem tU_cI {t : Nat → Int} {c o : Int} {j : Nat} {x : Int} (h : cI0 t c o) (hj : j < 5 ∨ (7 ≤ j ∧ j < 19)) : cI0 (tU t j x) c o := by
  obtain ⟨a1, a2, a3, a4⟩ := h
  have e : ∀ i, i = 5 ∨ i = 6 ∨ 19 ≤ i → tU t j x i = t i := fun i w => tU_ne (by omega)
  refine ⟨fun k hk => ?_, fun k hk => ?_, ?_, ?_⟩
  · rw [e 5 (by omega)] at hk; rw [e _ (by omega)]; exact a1 k hk
  · rw [e 6 (by omega)] at hk; rw [e _ (by omega)]; exact a2 k hk
  · rcases a3 with w | ⟨k, k1, k2⟩ | ⟨k, k1, k2⟩
    · exact Or.inl w
    · exact Or.inr (Or.inl ⟨k, by rw [e 5 (by omega)]; exact k1, by rw [e _ (by omega)]; exact k2⟩)
    · exact Or.inr (Or.inr ⟨k, by rw [e 6 (by omega)]; exact k1, by rw [e _ (by omega)]; exact k2⟩)
  · rw [e 49 (by omega)]; exact a4
theorem cI_T {of ln : Nat} {v t : Nat → Int} {c o : Int} (hof : of ≤ 2) (hi : lnIn of ln) (h : cI of t c o) (hW : tWf of t) (hg : ∀ j, j < lnN ln → ¬ lnB ln v j) (hM : ¬ (lnAdds ln ∧ t (lnC ln) = lnM ln)) : cI of (lnT ln v t) (lnFc ln v c) (lnFo ln v o) := by
  obtain ⟨n0, n1, n2, n3, n4, n5, n6, n13, n14⟩ := lnN_v
  rcases lnIn_j hof hi with ⟨rfl, hl⟩ | ⟨rfl, hl⟩ | ⟨rfl, hl⟩
  · refine ⟨fun _ => ?_, fun e => absurd e (by decide)⟩
    have h0 := h.1 rfl
    have hw := hW.1 rfl
    have w5 : 0 ≤ t 5 ∧ t 5 ≤ 4 := hw.2.2.2.2.2.1
    have w6 : 0 ≤ t 6 ∧ t 6 ≤ 6 := hw.2.2.2.2.2.2.1
    rcases (show ln = 0 ∨ ln = 1 ∨ ln = 2 ∨ ln = 3 ∨ ln = 4 ∨ ln = 5 ∨ ln = 6 by omega) with rfl | rfl | rfl | rfl | rfl | rfl | rfl
    · exact tU_cI (tU_cI h0 (by omega)) (by omega)
    · exact tU_cI (tU_cI h0 (by omega)) (by omega)
    · exact tU_cI h0 (by omega)
    · have b0 := lnG (hg 0 (by omega)) (lo := 0) (hi := 2) (by decide +kernel) (by decide +kernel)
      exact tU_cI (tU_cI (tU_cI (tU_cI h0 (by omega)) (by omega)) (by omega)) (by omega)
    · have hM4 : t 5 ≠ 4 := fun e => hM ⟨Or.inl rfl, e⟩
      have et : lnT 4 v t = tK t 5 19 3 4 v := rfl
      have ec : lnFc 4 v c = max c (v 0) := rfl
      have eo : lnFo 4 v o = o := rfl
      rw [et, ec, eo]
      have e5 : tK t 5 19 3 4 v 5 = t 5 + 1 := tK_c1 hM4
      have en : tK t 5 19 3 4 v (19 + 3 * (t 5).toNat) = v 0 := tK_new (r := 0) hM4 (by decide) (by decide)
      have e : ∀ i, ¬ (i = 5 ∨ (19 + 3 * (t 5).toNat ≤ i ∧ i < 22 + 3 * (t 5).toNat)) → tK t 5 19 3 4 v i = t i := fun i w => tK_old (by omega) (by omega)
      obtain ⟨a1, a2, a3, a4⟩ := h0
      refine ⟨fun k hk => ?_, fun k hk => ?_, ?_, ?_⟩
      · rw [e5] at hk
        by_cases w : (k : Int) = t 5
        · obtain rfl : k = (t 5).toNat := by omega
          rw [en]; omega
        · rw [e _ (by omega)]
          have := a1 k (by omega)
          omega
      · rw [e 6 (by omega)] at hk
        rw [e _ (by omega)]
        have := a2 k hk
        omega
      · by_cases w : v 0 ≤ c
        · rw [Int.max_eq_left w]; unfold cM0; rw [e5, e 6 (by omega)]
          rcases a3 with w | ⟨k, k1, k2⟩ | ⟨k, k1, k2⟩
          · exact Or.inl w
          · exact Or.inr (Or.inl ⟨k, by omega, by rw [e _ (by omega)]; exact k2⟩)
          · exact Or.inr (Or.inr ⟨k, k1, by rw [e _ (by omega)]; exact k2⟩)
        · rw [Int.max_eq_right (by omega)]; unfold cM0; rw [e5]
          exact Or.inr (Or.inl ⟨(t 5).toNat, by omega, en⟩)
      · rw [e 49 (by omega)]; exact a4
    · have hM5 : t 6 ≠ 6 := fun e => hM ⟨Or.inr (Or.inl rfl), e⟩
      have et : lnT 5 v t = tK t 6 31 3 6 v := rfl
      have ec : lnFc 5 v c = max c (v 0) := rfl
      have eo : lnFo 5 v o = o := rfl
      rw [et, ec, eo]
      have e6 : tK t 6 31 3 6 v 6 = t 6 + 1 := tK_c1 hM5
      have en : tK t 6 31 3 6 v (31 + 3 * (t 6).toNat) = v 0 := tK_new (r := 0) hM5 (by decide) (by decide)
      have e : ∀ i, ¬ (i = 6 ∨ (31 + 3 * (t 6).toNat ≤ i ∧ i < 34 + 3 * (t 6).toNat)) → tK t 6 31 3 6 v i = t i := fun i w => tK_old (by omega) (by omega)
      obtain ⟨a1, a2, a3, a4⟩ := h0
      refine ⟨fun k hk => ?_, fun k hk => ?_, ?_, ?_⟩
      · rw [e 5 (by omega)] at hk
        rw [e _ (by omega)]
        have := a1 k hk
        omega
      · rw [e6] at hk
        by_cases w : (k : Int) = t 6
        · obtain rfl : k = (t 6).toNat := by omega
          rw [en]; omega
        · rw [e _ (by omega)]
          have := a2 k (by omega)
          omega
      · by_cases w : v 0 ≤ c
        · rw [Int.max_eq_left w]; unfold cM0; rw [e6, e 5 (by omega)]
          rcases a3 with w | ⟨k, k1, k2⟩ | ⟨k, k1, k2⟩
          · exact Or.inl w
          · exact Or.inr (Or.inl ⟨k, k1, by rw [e _ (by omega)]; exact k2⟩)
          · exact Or.inr (Or.inr ⟨k, by omega, by rw [e _ (by omega)]; exact k2⟩)
        · rw [Int.max_eq_right (by omega)]; unfold cM0; rw [e6]
          exact Or.inr (Or.inr ⟨(t 6).toNat, by omega, en⟩)
      · rw [e 49 (by omega)]; exact a4
    · have b0 := lnG (hg 0 (by omega)) (lo := 0) (hi := 5) (by decide +kernel) (by decide +kernel)
      have et : lnT 6 v t = tU t 49 (yari 8 (t 49) (yari 5 1 (v 0))) := rfl
      have ec : lnFc 6 v c = c := rfl
      have eo : lnFo 6 v o = max o (v 0) := rfl
      rw [et, ec, eo]
      have e : ∀ i, i ≠ 49 → tU t 49 (yari 8 (t 49) (yari 5 1 (v 0))) i = t i := fun i w => tU_ne w
      obtain ⟨a1, a2, a3, a4⟩ := h0
      refine ⟨fun k hk => ?_, fun k hk => ?_, ?_, ?_⟩
      · rw [e 5 (by omega)] at hk; rw [e _ (by omega)]; exact a1 k hk
      · rw [e 6 (by omega)] at hk; rw [e _ (by omega)]; exact a2 k hk
      · unfold cM0
        rw [e 5 (by omega), e 6 (by omega)]
        rcases a3 with w | ⟨k, k1, k2⟩ | ⟨k, k1, k2⟩
        · exact Or.inl w
        · exact Or.inr (Or.inl ⟨k, k1, by rw [e _ (by omega)]; exact k2⟩)
        · exact Or.inr (Or.inr ⟨k, k1, by rw [e _ (by omega)]; exact k2⟩)
      · rw [tU_at]
        exact dI_or a4 b0
  · exact ⟨fun e => absurd e (by decide), fun e => absurd e (by decide)⟩
  · refine ⟨fun e => absurd e (by decide), fun _ => ?_⟩
    have h0 := h.2 rfl
    have hw := hW.2.2 rfl
    have w0 : 0 ≤ t 0 ∧ t 0 ≤ 9 := hw.1
    have w1 : 0 ≤ t 1 ∧ t 1 ≤ 16 := hw.2.1
    obtain ⟨a1, a2⟩ := h0
    rcases (show ln = 13 ∨ ln = 14 by omega) with rfl | rfl
    · have hM3 : t 0 ≠ 9 := fun e => hM ⟨Or.inr (Or.inr (by decide)), e⟩
      have et : lnT 13 v t = tK t 0 2 2 9 v := rfl
      have eo : lnFo 13 v o = o := rfl
      rw [et, eo]
      have e : ∀ i, ¬ (i = 0 ∨ (2 + 2 * (t 0).toNat ≤ i ∧ i < 4 + 2 * (t 0).toNat)) → tK t 0 2 2 9 v i = t i := fun i w => tK_old (by omega) (by omega)
      have hm : t 0 < 9 := by omega
      refine ⟨fun k hk => ?_, ?_⟩
      · rw [e 1 (by omega)] at hk
        rw [e _ (by omega), e _ (by omega)]
        exact a1 k hk
      · rcases a2 with w | ⟨k, k1, k2⟩
        · exact Or.inl w
        · exact Or.inr ⟨k, by rw [e 1 (by omega)]; exact k1, by rw [e _ (by omega), e _ (by omega)]; exact k2⟩
    · have hM3 : t 1 ≠ 16 := fun e => hM ⟨Or.inr (Or.inr (by decide)), e⟩
      have et : lnT 14 v t = tK t 1 20 2 16 v := rfl
      have eo : lnFo 14 v o = max o (max (v 0) (v 1)) := rfl
      rw [et, eo]
      have e1 : tK t 1 20 2 16 v 1 = t 1 + 1 := tK_c1 hM3
      have en0 : tK t 1 20 2 16 v (20 + 2 * (t 1).toNat) = v 0 := tK_new (r := 0) hM3 (by decide) (by decide)
      have en1 : tK t 1 20 2 16 v (20 + 2 * (t 1).toNat + 1) = v 1 := tK_new (r := 1) hM3 (by decide) (by decide)
      rw [show 20 + 2 * (t 1).toNat + 1 = 21 + 2 * (t 1).toNat by omega] at en1
      have e : ∀ i, ¬ (i = 1 ∨ (20 + 2 * (t 1).toNat ≤ i ∧ i < 22 + 2 * (t 1).toNat)) → tK t 1 20 2 16 v i = t i := fun i w => tK_old (by omega) (by omega)
      refine ⟨fun k hk => ?_, ?_⟩
      · rw [e1] at hk
        by_cases w : (k : Int) = t 1
        · obtain rfl : k = (t 1).toNat := by omega
          rw [en0, en1]; omega
        · rw [e _ (by omega), e _ (by omega)]
          have := a1 k (by omega)
          omega
      · by_cases w : max (v 0) (v 1) ≤ o
        · rw [Int.max_eq_left w]; unfold cM2; rw [e1]
          rcases a2 with w | ⟨k, k1, k2⟩
          · exact Or.inl w
          · exact Or.inr ⟨k, by omega, by rw [e _ (by omega), e _ (by omega)]; exact k2⟩
        · rw [Int.max_eq_right (by omega)]; unfold cM2; rw [e1]
          refine Or.inr ⟨(t 1).toNat, by omega, ?_⟩
          rw [en0, en1]
          omega
/-! whole or not -/
theorem mul_b {a b : Int} (ha : 2 ≤ a ∧ a ≤ 8) (hb : 2 ≤ b ∧ b ≤ 8) : 4 ≤ a * b ∧ a * b ≤ 64 := by
  rcases (show a = 2 ∨ a = 3 ∨ a = 4 ∨ a = 5 ∨ a = 6 ∨ a = 7 ∨ a = 8 by omega) with rfl | rfl | rfl | rfl | rfl | rfl | rfl <;> omega
theorem cell_e {n : Nat} {t : Nat → Int} {x : Int} {h : yH} (hS : cS 90 t h) (hW : tW0 t) (hx : 0 ≤ x) : f_X6_hasCell n [90, x] h = some (if x < t 0 * t 1 then 1 else 0, h) := by
  have hm := mul_b hW.1 hW.2.1
  rw [e_X6_hasCell, if_neg (by omega), e_X6_cells, hS.1, hS.2.1, xg_pos (by omega), xb_some]
  by_cases w : x < t 0 * t 1
  · rw [if_pos w, if_pos w]
  · rw [if_neg w, if_neg w]
theorem whole_b {t : Nat → Int} {h : yH} (hP : cP h) (hS : cS 90 t h) (hW : tW0 t) : ∀ (m k n : Nat), 7 - k = m → m < n → k ≤ 6 → ∃ w, xl_X6_isWhole n 33 [90, (k : Int)] h = some (w, h) ∧ (w ≠ 0 ↔ (∀ j : Nat, k ≤ j → (j : Int) < t 6 → t (31 + 3 * j) < t 0 * t 1) ∧ yari 6 (t 49) (t 6) = 0) := by
  have w6 : 0 ≤ t 6 ∧ t 6 ≤ 6 := hW.2.2.2.2.2.2.1
  intro m
  induction m with
  | zero => intro k n h1 h2 h3; omega
  | succ m ih =>
    intro k n h1 h2 h3
    obtain ⟨n, rfl⟩ : ∃ n', n = n' + 1 := ⟨n - 1, by omega⟩
    obtain ⟨a0, a1, a2, a3, a4, a5, a6, a7, a8, a9, a10⟩ := hS
    have hS : cS 90 t h := ⟨a0, a1, a2, a3, a4, a5, a6, a7, a8, a9, a10⟩
    rw [e_X6_isWhole_33, a6]
    by_cases hk : (k : Int) < t 6
    · have c0 := (a10 k hk).1
      have c1 := (hW.2.2.2.2.2.2.2.2.2.2 k (by omega)).1
      have c0' : h 95 k = t (31 + 3 * k) := c0
      rw [if_pos hk, xg_pos (hP.p (by decide)), xg_pos (by omega), Int.toNat_natCast, c0', cell_e hS hW (by omega), xb_some]
      by_cases w : t (31 + 3 * k) < t 0 * t 1
      · rw [if_pos w, if_neg (by decide), xg_pos (by omega)]
        obtain ⟨v, g1, g2⟩ := ih (k + 1) n (by omega) (by omega) (by omega)
        refine ⟨v, g1, g2.trans ⟨fun q => ⟨fun j hj hj2 => ?_, q.2⟩, fun q => ⟨fun j hj hj2 => q.1 j (by omega) hj2, q.2⟩⟩⟩
        by_cases e : j = k
        · rw [e]; exact w
        · exact q.1 j (by omega) hj2
      · rw [if_neg w, if_pos rfl]
        exact ⟨0, rfl, fun q => absurd rfl q, fun q => absurd (q.1 k (by omega) hk) w⟩
    · rw [if_neg hk, a7]
      by_cases w : yari 6 (t 49) (t 6) = 0
      · rw [if_pos w]
        exact ⟨1, rfl, fun _ => ⟨fun j hj hj2 => by omega, w⟩, fun _ => by decide⟩
      · rw [if_neg w]
        exact ⟨0, rfl, fun q => absurd rfl q, fun q => absurd q.2 w⟩
theorem whole_s {t : Nat → Int} {h : yH} (hP : cP h) (hS : cS 90 t h) (hW : tW0 t) : ∀ (m k n : Nat), 5 - k = m → m + 10 < n → k ≤ 4 → ∃ w, xl_X6_isWhole n 2 [90, (k : Int)] h = some (w, h) ∧ (w ≠ 0 ↔ (∀ j : Nat, k ≤ j → (j : Int) < t 5 → t (19 + 3 * j) < t 0 * t 1) ∧ (∀ j : Nat, (j : Int) < t 6 → t (31 + 3 * j) < t 0 * t 1) ∧ yari 6 (t 49) (t 6) = 0) := by
  have w5 : 0 ≤ t 5 ∧ t 5 ≤ 4 := hW.2.2.2.2.2.1
  intro m
  induction m with
  | zero => intro k n h1 h2 h3; omega
  | succ m ih =>
    intro k n h1 h2 h3
    obtain ⟨n, rfl⟩ : ∃ n', n = n' + 1 := ⟨n - 1, by omega⟩
    obtain ⟨a0, a1, a2, a3, a4, a5, a6, a7, a8, a9, a10⟩ := hS
    have hS : cS 90 t h := ⟨a0, a1, a2, a3, a4, a5, a6, a7, a8, a9, a10⟩
    rw [e_X6_isWhole_2, a5]
    by_cases hk : (k : Int) < t 5
    · have c0 := (a9 k hk).1
      have c1 := (hW.2.2.2.2.2.2.2.2.2.1 k (by omega)).1
      have c0' : h 92 k = t (19 + 3 * k) := c0
      rw [if_pos hk, xg_pos (hP.p (by decide)), xg_pos (by omega), Int.toNat_natCast, c0', cell_e hS hW (by omega), xb_some]
      by_cases w : t (19 + 3 * k) < t 0 * t 1
      · rw [if_pos w, if_neg (by decide), xg_pos (by omega)]
        obtain ⟨v, g1, g2⟩ := ih (k + 1) n (by omega) (by omega) (by omega)
        refine ⟨v, g1, g2.trans ⟨fun q => ⟨fun j hj hj2 => ?_, q.2⟩, fun q => ⟨fun j hj hj2 => q.1 j (by omega) hj2, q.2⟩⟩⟩
        by_cases e : j = k
        · rw [e]; exact w
        · exact q.1 j (by omega) hj2
      · rw [if_neg w, if_pos rfl]
        exact ⟨0, rfl, fun q => absurd rfl q, fun q => absurd (q.1 k (by omega) hk) w⟩
    · rw [if_neg hk]
      obtain ⟨v, g1, g2⟩ := whole_b hP hS hW 7 0 n rfl (by omega) (by omega)
      exact ⟨v, g1, g2.trans ⟨fun q => ⟨fun j hj hj2 => by omega, fun j hj => q.1 j (by omega) hj, q.2⟩, fun q => ⟨fun j _ hj => q.2.1 j hj, q.2.2⟩⟩⟩
theorem whole_d {t : Nat → Int} {h : yH} (hP : cP h) (hS : cQ 110 t h) (hW : tW2 t) : ∀ (m k n : Nat), 17 - k = m → m < n → k ≤ 16 → ∃ w, xl_X2_isWhole n 2 [110, (k : Int)] h = some (w, h) ∧ (w = 0 ∨ w = 1) ∧ (w ≠ 0 ↔ (∀ j : Nat, k ≤ j → (j : Int) < t 1 → t (20 + 2 * j) < t 0 ∧ t (21 + 2 * j) < t 0) ∧ 0 < t 0) := by
  have w1 : 0 ≤ t 1 ∧ t 1 ≤ 16 := hW.2.1
  intro m
  induction m with
  | zero => intro k n h1 h2 h3; omega
  | succ m ih =>
    intro k n h1 h2 h3
    obtain ⟨n, rfl⟩ : ∃ n', n = n' + 1 := ⟨n - 1, by omega⟩
    obtain ⟨a0, a1, a2, a3⟩ := hS
    have hS : cQ 110 t h := ⟨a0, a1, a2, a3⟩
    rw [e_X2_isWhole_2, a1, a0]
    by_cases hk : (k : Int) < t 1
    · obtain ⟨c0, c1⟩ := a3 k hk
      have c0' : h 113 k = t (20 + 2 * k) := c0
      have c1' : h 114 k = t (21 + 2 * k) := c1
      rw [if_pos hk, xg_pos (hP.p (by decide)), xg_pos (by omega), Int.toNat_natCast, c0']
      by_cases w : t (20 + 2 * k) < t 0
      · rw [if_pos w, xg_pos (hP.p (by decide)), xg_pos (by omega), c1']
        by_cases w2 : t (21 + 2 * k) < t 0
        · rw [if_pos w2, xg_pos (by omega)]
          obtain ⟨v, g1, g0, g2⟩ := ih (k + 1) n (by omega) (by omega) (by omega)
          refine ⟨v, g1, g0, g2.trans ⟨fun q => ⟨fun j hj hj2 => ?_, q.2⟩, fun q => ⟨fun j hj hj2 => q.1 j (by omega) hj2, q.2⟩⟩⟩
          by_cases e : j = k
          · rw [e]; exact ⟨w, w2⟩
          · exact q.1 j (by omega) hj2
        · rw [if_neg w2]
          exact ⟨0, rfl, Or.inl rfl, fun q => absurd rfl q, fun q => absurd (q.1 k (by omega) hk).2 w2⟩
      · rw [if_neg w]
        exact ⟨0, rfl, Or.inl rfl, fun q => absurd rfl q, fun q => absurd (q.1 k (by omega) hk).1 w⟩
    · rw [if_neg hk]
      by_cases w : 0 < t 0
      · rw [if_pos w]
        exact ⟨1, rfl, Or.inr rfl, fun _ => ⟨fun j hj hj2 => by omega, w⟩, fun _ => by decide⟩
      · rw [if_neg w]
        exact ⟨0, rfl, Or.inl rfl, fun q => absurd rfl q, fun q => absurd q.2 w⟩
/-- the end of read(): what is not whole is noted -/
theorem end_e {u : Nat → Int} {N n of : Nat} {x3 x4 : Int} {q : Int × Int} {t : Nat → Int} {g : yH} (hof : of ≤ 2) (hc : cC u N g) (hH : cH of q t g) (hn : 40 ≤ n) : ∃ X : Prop, xq_X4_read_66 n (xl_X4_read n) [80, 4, (of : Int), x3, x4] g = some (0, cN (@nt q X (Classical.propDecidable _) 4 (N : Int)) g) ∧ ∀ c o, q.1 = 0 → cI of t c o → (X ↔ lnX of t c o) := by
  obtain ⟨e3, e4, t2, er, ew, et⟩ := hH
  have eg : cN q g = g := cN_self e3 e4
  have hP := hc.2.2.2
  have note0 : ∀ (X : Prop) (w : X), f_X4_note n [80, 4, (N : Int)] g = some (0, cN (@nt q X (Classical.propDecidable _) 4 (N : Int)) g) := fun X w => by
    have := @note_e n q 4 (N : Int) X (Classical.propDecidable _) g (by decide) w
    rw [eg] at this
    exact this
  have non0 : ∀ (X : Prop) (w : ¬ X), some ((0 : Int), g) = some (0, cN (@nt q X (Classical.propDecidable _) 4 (N : Int)) g) := fun X w => by
    rw [ntf w, eg]
  rw [e_X4_read_66]
  rcases (show of = 0 ∨ of = 1 ∨ of = 2 by omega) with rfl | rfl | rfl
  · have hS := er.1 rfl
    have hw := ew.1 rfl
    obtain ⟨v, g1, g2⟩ := whole_s hP hS hw 5 0 n rfl (by omega) (by omega)
    rw [if_pos (by decide), xg_pos (hP.p (by decide)), e_X6_isWhole]
    have g1' : xl_X6_isWhole n 2 [90, 0] g = some (v, g) := g1
    rw [g1', xb_some, hc.1]
    have hX : ∀ c o, q.1 = 0 → cI 0 t c o → (v = 0 ↔ lnX 0 t c o) := by
      intro c o hq hI
      have ett := et hq
      subst ett
      obtain ⟨a1, a2, a3, a4⟩ := hI.1 rfl
      have hm := mul_b hw.1 hw.2.1
      have w6 : 0 ≤ t2 6 ∧ t2 6 ≤ 6 := hw.2.2.2.2.2.2.1
      have hsh := dI_sh a4 w6
      have g3 : v = 0 ↔ ¬ ((∀ j : Nat, 0 ≤ j → (j : Int) < t2 5 → t2 (19 + 3 * j) < t2 0 * t2 1) ∧ (∀ j : Nat, (j : Int) < t2 6 → t2 (31 + 3 * j) < t2 0 * t2 1) ∧ yari 6 (t2 49) (t2 6) = 0) := ⟨fun e w => absurd e (g2.mpr w), fun w => Classical.byContradiction (fun w2 => w (g2.mp w2))⟩
      rw [g3]
      unfold lnX
      constructor
      · intro w
        refine Or.inl ⟨rfl, ?_⟩
        by_cases c1 : t2 0 * t2 1 ≤ c
        · exact Or.inl c1
        · refine Or.inr (Classical.byContradiction (fun c2 => w ⟨fun j _ hj => ?_, fun j hj => ?_, hsh.mpr (by omega)⟩))
          · have := a1 j hj; omega
          · have := a2 j hj; omega
      · intro w ⟨q1, q2, q3⟩
        rcases w with ⟨-, w | w⟩ | ⟨w, -⟩
        · rcases a3 with e | ⟨k, k1, k2⟩ | ⟨k, k1, k2⟩
          · omega
          · have := q1 k (by omega) k1; omega
          · have := q2 k k1; omega
        · have := hsh.mp q3; omega
        · cases w
    by_cases hv : v = 0
    · rw [if_pos hv, note0 True trivial, xb_some]
      exact ⟨True, rfl, fun c o hq hI => ⟨fun _ => (hX c o hq hI).mp hv, fun _ => trivial⟩⟩
    · rw [if_neg hv, non0 False (fun w => w)]
      exact ⟨False, rfl, fun c o hq hI => ⟨fun w => w.elim, fun w => hv ((hX c o hq hI).mpr w)⟩⟩
  · rw [if_neg (by decide), if_pos (by decide), if_neg (by decide), non0 False (fun w => w)]
    exact ⟨False, rfl, fun c o hq hI => ⟨fun w => w.elim, fun w => by unfold lnX at w; omega⟩⟩
  · have hS := er.2.2 rfl
    have hw := ew.2.2 rfl
    obtain ⟨v, g1, g0, g2⟩ := whole_d hP hS hw 17 0 n rfl (by omega) (by omega)
    rw [if_neg (by decide), if_neg (by decide), xg_pos (hP.p (by decide)), e_X2_isWhole]
    have g1' : xl_X2_isWhole n 2 [110, 0] g = some (v, g) := g1
    rw [g1', xb_some, hc.1]
    have hX : ∀ c o, q.1 = 0 → cI 2 t c o → (v = 0 ↔ lnX 2 t c o) := by
      intro c o hq hI
      have ett := et hq
      subst ett
      obtain ⟨a1, a2⟩ := hI.2 rfl
      have w0 : 0 ≤ t2 0 ∧ t2 0 ≤ 9 := hw.1
      have g3 : v = 0 ↔ ¬ ((∀ j : Nat, 0 ≤ j → (j : Int) < t2 1 → t2 (20 + 2 * j) < t2 0 ∧ t2 (21 + 2 * j) < t2 0) ∧ 0 < t2 0) := ⟨fun e w => absurd e (g2.mpr w), fun w => Classical.byContradiction (fun w2 => w (g2.mp w2))⟩
      rw [g3]
      unfold lnX
      constructor
      · intro w
        refine Or.inr ⟨rfl, ?_⟩
        by_cases c1 : t2 0 = 0
        · exact Or.inl c1
        · refine Or.inr (Classical.byContradiction (fun c2 => w ⟨fun j _ hj => ?_, by omega⟩))
          have := a1 j hj; omega
      · intro w ⟨q1, q2⟩
        rcases w with ⟨w, -⟩ | ⟨-, w | w⟩
        · cases w
        · omega
        · rcases a2 with e | ⟨k, k1, k2⟩
          · omega
          · have := q1 k (by omega) k1; omega
    by_cases hv : v = 0
    · rw [if_pos hv, if_pos rfl, note0 True trivial, xb_some]
      exact ⟨True, rfl, fun c o hq hI => ⟨fun _ => (hX c o hq hI).mp hv, fun _ => trivial⟩⟩
    · rw [if_neg hv, if_neg (by decide), non0 False (fun w => w)]
      exact ⟨False, rfl, fun c o hq hI => ⟨fun w => w.elim, fun w => hv ((hX c o hq hI).mpr w)⟩⟩
end
section
/-! the class: read() -/
theorem tkS_le {u : Nat → Int} {N x : Nat} : x ≤ tkS u N x := tGo_le
theorem tkN_le {u : Nat → Int} {N x : Nat} : ∀ i, x ≤ tkN u N x i := by
  intro i
  induction i with
  | zero => exact Nat.le_refl _
  | succ i ih => exact Nat.le_trans ih (Nat.le_trans tkS_le tkS_E)
theorem tkK_0 {u : Nat → Int} {N x : Nat} (hx : x ≤ N) : tkK u N x = 0 ↔ tkS u N x = N := by
  have hs : tkS u N x ≤ N := tkS_n hx
  unfold tkK
  by_cases h : N ≤ tkS u N x
  · rw [if_pos h]
    exact ⟨fun _ => by omega, fun _ => rfl⟩
  · rw [if_neg h]
    refine ⟨fun w => ?_, fun w => by omega⟩
    split at w
    · cases w
    · split at w
      · split at w <;> cases w
      · split at w <;> cases w
theorem tc_0 {k : Nat} (hk : k ≤ 4) : tc k = 0 ↔ k = 0 := by
  unfold tc
  split
  · omega
  · split <;> omega
theorem tc_1 {k : Nat} (hk : k ≤ 4) : tc k = 1 ↔ k = 2 := by
  unfold tc
  split
  · omega
  · split <;> omega
theorem brk_e {u : Nat → Int} {N n of : Nat} {x4 : Int} {q : Int × Int} {t : Nat → Int} {g : yH} (hof : of ≤ 2) (hc : cC u N g) (hH : cH of q t g) (hq : q.1 ≠ 0) (hn : 41 ≤ n) : xl_X4_read n 41 [80, 4, (of : Int), 0, x4] g = some (0, g) := by
  obtain ⟨n, rfl⟩ : ∃ n', n = n' + 1 := ⟨n - 1, by omega⟩
  rw [e_X4_read_41, if_pos rfl]
  obtain ⟨X, g1, -⟩ := end_e (n := n) (x3 := 0) (x4 := x4) hof hc hH (by omega)
  rw [g1, ntn hq, cN_self hH.1 hH.2.1]
set_option maxHeartbeats 1000000 in
theorem read_l {u : Nat → Int} {N of : Nat} (hof : of ≤ 2) : ∀ (m l x n : Nat) (q : Int × Int) (h : yH) (t : Nat → Int) (c o : Int), N - x < m → m + 2000 ≤ n → x ≤ N → l ≤ x → cC u N h → h 80 9 = (x : Int) → cH of q t h → (q.1 = 0 → cI of t c o) →
    ∃ h2, xl_X4_read n 41 [80, 4, (of : Int), 1, (l : Int)] h = some (0, h2) ∧ cC u N h2 ∧ cX h h2 ∧ cH of (pRd u N of m x q t c o).1 (pRd u N of m x q t c o).2 h2 := by
  intro m
  induction m with
  | zero => intro l x n q h t c o e1; omega
  | succ m ih =>
    intro l x n q h t c o e1 e2 hx hl hc h9 hH hI
    obtain ⟨n, rfl⟩ : ∃ n', n = n' + 1 := ⟨n - 1, by omega⟩
    have hN := hc.2.1
    rw [e_X4_read_41, if_neg (by decide), if_neg (by omega), e_X4_readLine, nextToken_e hc h9 hx (by omega), xb_some, cTk_7, cTk_8]
    have hc1 := cTk_C (x := x) hc
    have hH1 := cTk_H (u := u) (N := N) (x := x) hH
    have hX1 : cX h (cTk u N x h) := fun a j w => cTk_ne (by omega)
    have h18 : cTk u N x h 80 8 = (tkS u N x : Int) := cTk_8
    have h19 : cTk u N x h 80 9 = (tkE u N x : Int) := cTk_9
    generalize cTk u N x h = g at *
    simp only [pRd]
    by_cases hK0 : tkK u N x = 0
    · rw [if_pos ((tc_0 tkK_4).mpr hK0), xb_some, xg_pos (by omega), if_pos hK0]
      obtain ⟨n, rfl⟩ : ∃ n', n = n' + 1 := ⟨n - 1, by omega⟩
      rw [e_X4_read_41, if_pos rfl]
      obtain ⟨X, g1, g2⟩ := end_e (n := n) (x3 := 0) (x4 := (l : Int) + 1) hof hc1 hH1 (by omega)
      have hS : tkS u N x = N := (tkK_0 hx).mp hK0
      have eQ : @nt q X (Classical.propDecidable _) 4 (N : Int) = @nt q (lnX of t c o) (Classical.propDecidable _) 4 (tkS u N x : Nat) := by
        rw [hS]
        by_cases hq : q.1 = 0
        · exact nt_iff (g2 c o hq (hI hq))
        · rw [ntn hq, ntn hq]
      rw [g1, eQ]
      refine ⟨_, rfl, cN_C hc1, fun a j w => by rw [cN_ne (by omega)]; exact hX1 a j w, ?_⟩
      obtain ⟨e3, e4, t2, er, ew, et⟩ := hH1
      refine ⟨cN_3, cN_4, t2, er.fr (fun a j _ _ => cN_ne (by omega)), ew, fun w => et ?_⟩
      by_cases hq : q.1 = 0
      · exact hq
      · simp only at w
        rw [ntn hq] at w
        exact w
    · rw [if_neg (fun w => hK0 ((tc_0 tkK_4).mp w)), if_neg hK0]
      by_cases h15 : lnAt u N of x = 15
      · rw [if_pos h15]
        have hb : cH of (1, (tkS u N x : Nat)) t (cN (1, (tkS u N x : Int)) g) := cN_H hH1 (show (1 : Int) ≠ 0 by decide)
        have hcb : cC u N (cN (1, (tkS u N x : Int)) g) := cN_C hc1
        have fin : xl_X4_read n 41 [80, 4, (of : Int), 0, (l : Int) + 1] (cN (1, (tkS u N x : Int)) g) = some (0, cN (1, (tkS u N x : Int)) g) := brk_e hof hcb hb (show (1 : Int) ≠ 0 by decide) (by omega)
        refine ⟨cN (1, (tkS u N x : Int)) g, ?_, hcb, fun a j w => by rw [cN_ne (by omega)]; exact hX1 a j w, hb⟩
        by_cases hk2 : tkK u N x = 2
        · rw [if_pos ((tc_1 tkK_4).mpr hk2), lineOf_e hof hc1 h18 h19 hk2 hx (by omega), xb_some, if_pos h15, if_pos rfl, break_e, xb_some, xg_pos (by decide), xb_some, xg_pos (by omega), h18]
          exact fin
        · rw [if_neg (fun w => hk2 ((tc_1 tkK_4).mp w)), if_pos trivial, break_e, xb_some, xg_pos (by decide), xb_some, xg_pos (by omega), h18]
          exact fin
      · rw [if_neg h15]
        obtain ⟨hk2, hi, hwe⟩ := lnAt_p h15
        have hln : lnAt u N of x < 15 := by have := lnIn_j hof hi; omega
        rw [if_pos ((tc_1 tkK_4).mpr hk2), lineOf_e hof hc1 h18 h19 hk2 hx (by omega), xb_some, if_neg h15, if_neg (by omega)]
        generalize lnAt u N of x = ln at *
        have hb5 := (lnN_b ⟨ln, hln⟩).2
        simp only at hb5
        obtain ⟨v, h2, r1, r2, r3, r4⟩ := line_l (q := q) (t := t) hof hi hln hx (lnN ln) 0 n g rfl (by omega) (by omega) hc1 h19 hH1 (fun j hj => by omega)
        have r1' : xl_X4_readLine n 53 [80, 4, (of : Int), (tkS u N x : Int), (ln : Int), 0] g = some (v, h2) := r1
        rw [r1', xb_some, xg_pos (by omega)]
        have hX2 : cX h h2 := fun a j w => by rw [r3 a j w]; exact hX1 a j w
        rcases r4 with ⟨rfl, k, k1, k2, k3, k4⟩ | ⟨ka, ⟨rfl, k2, k4⟩ | ⟨rfl, k2, k9, k4⟩⟩
        · have hex : ∃ i, i < lnN ln ∧ tkK u N (tkN u N x (i + 1)) ≠ 3 ∧ ∀ j, j < i → tkK u N (tkN u N x (j + 1)) = 3 := ⟨k, k1, k2, k3⟩
          rw [dif_pos hex]
          have hch := hex.choose_spec
          have hek : hex.choose = k := by
            rcases Nat.lt_trichotomy hex.choose k with w | w | w
            · exact absurd (k3 _ w) hch.2.1
            · exact w
            · exact absurd (hch.2.2 k w) k2
          rw [hek]
          exact ⟨h2, brk_e hof r2 k4 (show (1 : Int) ≠ 0 by decide) (by omega), r2, hX2, k4⟩
        · rw [dif_neg (fun ⟨i, i1, i2, _⟩ => i2 (ka i i1)), if_pos k2]
          exact ⟨h2, brk_e hof r2 k4 (show (1 : Int) ≠ 0 by decide) (by omega), r2, hX2, k4⟩
        · rw [dif_neg (fun ⟨i, i1, i2, _⟩ => i2 (ka i i1)), if_neg (fun w => w k2)]
          have y1 : x ≤ tkN u N x (lnN ln + 1) := tkN_le _
          have y2 : tkN u N x (lnN ln + 1) ≤ N := tkN_m hx _
          have y3 : tkS u N (tkN u N x (lnN ln + 1)) < N := by
            have a1 : tkS u N (tkN u N x (lnN ln + 1)) ≤ N := tkS_n y2
            have a2 : ¬ tkS u N (tkN u N x (lnN ln + 1)) = N := fun w => by
              have := (tkK_0 y2).mpr w
              omega
            omega
          have y4 := tkE_gt y3
          have y5 : tkN u N x (lnN ln + 1) ≤ tkS u N (tkN u N x (lnN ln + 1)) := tkS_le
          have y6 : tkE u N (tkN u N x (lnN ln + 1)) ≤ N := tkE_n y2
          obtain ⟨h3, s1, s2, s3, s4⟩ := ih (l + 1) (tkE u N (tkN u N x (lnN ln + 1))) n _ h2 _ (lnFc ln (fun i => tkV u N (tkN u N x (i + 1))) c) (lnFo ln (fun i => tkV u N (tkN u N x (i + 1))) o) (by omega) (by omega) y6 (by omega) r2 k9 k4 (fun w => by
            obtain ⟨z1, z2, z3⟩ := ntL_0 w
            have hq : q.1 = 0 := by
              by_cases hq : q.1 = 0
              · exact hq
              · rw [ntn hq] at z1; exact absurd z1 hq
            have hM : ¬ (lnAdds ln ∧ t (lnC ln) = lnM ln) := by
              intro w2
              rw [ntt hq w2] at z1
              exact absurd z1 (show ¬ (3 : Int) = 0 by decide)
            obtain ⟨-, -, t2, -, ew, et⟩ := hH1
            rw [et hq] at ew
            exact cI_T hof hi (hI hq) ew z3 hM)
          exact ⟨h3, s1, s2, fun a j w => by rw [s3 a j w]; exact hX2 a j w, s4⟩
theorem clear_s {n c : Nat} {h : yH} (hP : cP h) (hc : c < 3) : xl_X6_clear (n + 1) 29 [90, (c : Int)] h = xl_X6_clear n 29 [90, ((c + 1 : Nat) : Int)] (zup (zup (zup (zup h 91 (4 * c) 3) 91 (4 * c + 1) 1) 91 (4 * c + 2) 4) 91 (4 * c + 3) 6) := by
  have p91 := hP.p (a := 90) (j := 5) (v := 91) (by decide)
  rw [e_X6_clear_29, if_pos (by omega), xg_pos p91, xg_pos (by omega), xg_pos (by omega), xg_pos (by omega), xg_pos p91, xg_pos (by omega), xg_pos (by omega), xg_pos (by omega), xg_pos p91, xg_pos (by omega), xg_pos (by omega), xg_pos (by omega), xg_pos p91, xg_pos (by omega), xg_pos (by omega), xg_pos (by omega), xg_pos (by omega), show (4 * (c : Int) + 0).toNat = 4 * c by omega, show (4 * (c : Int) + 1).toNat = 4 * c + 1 by omega, show (4 * (c : Int) + 2).toNat = 4 * c + 2 by omega, show (4 * (c : Int) + 3).toNat = 4 * c + 3 by omega]
  rfl
theorem cF_91 : ∀ j, cF 91 j = false := fun j => by
  unfold cF
  rw [List.any_eq_false]
  intro p hp
  have : ∀ p ∈ cPL, p.1 ≠ 91 := by decide +kernel
  simp [this p hp]
/-- what is told at the beginning -/
theorem clear_e {n : Nat} {h : yH} (hP : cP h) (hn : 5 ≤ n) : ∃ h2, f_X6_clear n [90] h = some (0, h2) ∧ cP h2 ∧ (∀ a j, ¬ (a = 90 ∨ a = 91) → h2 a j = h a j) ∧ ∀ t : Nat → Int, (∀ j, j < 121 → t j = tI 0 j) → cS 90 t h2 := by
  obtain ⟨n, rfl⟩ : ∃ n', n = n' + 4 := ⟨n - 4, by omega⟩
  have q0 : cP (zup (zup (zup (zup (zup h 90 0 6) 90 1 6) 90 2 0) 90 3 0) 90 4 4) := ((((hP.up (by decide)).up (by decide)).up (by decide)).up (by decide)).up (by decide)
  rw [e_X6_clear]
  have nx : ∀ c g, cP g → cP (zup (zup (zup (zup g 91 (4 * c) 3) 91 (4 * c + 1) 1) 91 (4 * c + 2) 4) 91 (4 * c + 3) 6) := fun c g w => (((w.up (cF_91 _)).up (cF_91 _)).up (cF_91 _)).up (cF_91 _)
  have s0 := clear_s (n := n + 3) (c := 0) q0 (by decide)
  have s1 := clear_s (n := n + 2) (c := 1) (nx 0 _ q0) (by decide)
  have s2 := clear_s (n := n + 1) (c := 2) (nx 1 _ (nx 0 _ q0)) (by decide)
  have q3 := nx 2 _ (nx 1 _ (nx 0 _ q0))
  have s3 : xl_X6_clear (n + 1) 29 [90, ((2 + 1 : Nat) : Int)] _ = _ := (e_X6_clear_29 (n := n) (x1 := ((2 + 1 : Nat) : Int)) (h := (zup (zup (zup (zup (zup (zup (zup (zup (zup (zup (zup (zup (zup (zup (zup (zup (zup h 90 0 6) 90 1 6) 90 2 0) 90 3 0) 90 4 4) 91 (4 * 0) 3) 91 (4 * 0 + 1) 1) 91 (4 * 0 + 2) 4) 91 (4 * 0 + 3) 6) 91 (4 * 1) 3) 91 (4 * 1 + 1) 1) 91 (4 * 1 + 2) 4) 91 (4 * 1 + 3) 6) 91 (4 * 2) 3) 91 (4 * 2 + 1) 1) 91 (4 * 2 + 2) 4) 91 (4 * 2 + 3) 6))).trans (if_neg (by decide))
  refine ⟨_, s0.trans (s1.trans (s2.trans s3)), ((q3.up (by decide)).up (by decide)).up (by decide), fun a j w => ?_, fun t ht => ?_⟩
  · rw [zup_ne (by omega), zup_ne (by omega), zup_ne (by omega), zup_ne (by omega), zup_ne (by omega), zup_ne (by omega), zup_ne (by omega), zup_ne (by omega), zup_ne (by omega), zup_ne (by omega), zup_ne (by omega), zup_ne (by omega), zup_ne (by omega), zup_ne (by omega), zup_ne (by omega), zup_ne (by omega), zup_ne (by omega), zup_ne (by omega), zup_ne (by omega), zup_ne (by omega)]
  · have t5 : t 5 = 0 := by rw [ht 5 (by decide)]; rfl
    have t6 : t 6 = 0 := by rw [ht 6 (by decide)]; rfl
    refine ⟨by rw [ht 0 (by decide)]; rfl, by rw [ht 1 (by decide)]; rfl, by rw [ht 2 (by decide)]; rfl, by rw [ht 3 (by decide)]; rfl, by rw [ht 4 (by decide)]; rfl, by rw [ht 5 (by decide)]; rfl, by rw [ht 6 (by decide)]; rfl, by rw [ht 49 (by decide)]; rfl, fun i hi => ?_, fun k hk => by omega, fun k hk => by omega⟩
    rw [ht (7 + i) (by omega)]
    rcases (show i = 0 ∨ i = 1 ∨ i = 2 ∨ i = 3 ∨ i = 4 ∨ i = 5 ∨ i = 6 ∨ i = 7 ∨ i = 8 ∨ i = 9 ∨ i = 10 ∨ i = 11 by omega) with rfl | rfl | rfl | rfl | rfl | rfl | rfl | rfl | rfl | rfl | rfl | rfl <;> rfl
theorem cI_0 {of : Nat} {t : Nat → Int} (hof : of ≤ 2) (ht : ∀ j, j < 121 → t j = tI of j) : cI of t (-1) (-1) := by
  refine ⟨fun e => ?_, fun e => ?_⟩
  · subst e
    have t5 : t 5 = 0 := by rw [ht 5 (by decide)]; rfl
    have t6 : t 6 = 0 := by rw [ht 6 (by decide)]; rfl
    have t49 : t 49 = 0 := by rw [ht 49 (by decide)]; rfl
    refine ⟨fun k hk => by omega, fun k hk => by omega, Or.inl rfl, ?_⟩
    rw [t49]
    unfold dI
    decide
  · subst e
    have t1 : t 1 = 0 := by rw [ht 1 (by decide)]; rfl
    exact ⟨fun k hk => by omega, Or.inl rfl⟩
/-- read(): as the document reads a text -/
theorem read_e {u : Nat → Int} {N of n : Nat} {t0 : Nat → Int} {h : yH} (hof : of ≤ 2) (hn : 2800 ≤ n) (hc : cC u N h) (ht : ∀ j, j < 121 → t0 j = tI of j) : ∃ h2, f_X4_read n [80, 4, (of : Int)] h = some (0, h2) ∧ cC u N h2 ∧ cX h h2 ∧ cH of (pRd u N of 700 0 (0, -1) t0 (-1) (-1)).1 (pRd u N of 700 0 (0, -1) t0 (-1) (-1)).2 h2 := by
  have hP := hc.2.2.2
  have hN := hc.2.1
  obtain ⟨g, g1, g2, g3, g4⟩ := clear_e (n := n) hP (by omega)
  rw [e_X4_read, xg_pos (hP.p (by decide)), g1, xb_some, xg_pos (g2.p (by decide)), e_X1_clear, xb_some, xg_pos ((g2.up (by decide)).p (by decide)), e_X2_clear, xb_some]
  generalize hk : zup (zup (zup (zup (zup (zup g 100 0 0) 110 0 0) 110 3 0) 80 3 0) 80 4 (-1)) 80 9 0 = k
  have kn : ∀ a j, ¬ (a = 100 ∧ j = 0) → ¬ (a = 110 ∧ (j = 0 ∨ j = 3)) → ¬ (a = 80 ∧ (j = 3 ∨ j = 4 ∨ j = 9)) → k a j = g a j := fun a j w1 w2 w3 => by rw [← hk, zup_ne (by omega), zup_ne (by omega), zup_ne (by omega), zup_ne (by omega), zup_ne (by omega), zup_ne (by omega)]
  have kP : cP k := by
    rw [← hk]
    exact (((((g2.up (by decide)).up (by decide)).up (by decide)).up (by decide)).up (by decide)).up (by decide)
  have k9 : k 80 9 = ((0 : Nat) : Int) := by rw [← hk, zup_at]; rfl
  have k4 : k 80 4 = -1 := by rw [← hk, zup_ne (by omega), zup_at]
  have k3 : k 80 3 = 0 := by rw [← hk, zup_ne (by omega), zup_ne (by omega), zup_at]
  have k113 : k 110 3 = 0 := by rw [← hk, zup_ne (by omega), zup_ne (by omega), zup_ne (by omega), zup_at]
  have k110 : k 110 0 = 0 := by rw [← hk, zup_ne (by omega), zup_ne (by omega), zup_ne (by omega), zup_ne (by omega), zup_at]
  have k100 : k 100 0 = 0 := by rw [← hk, zup_ne (by omega), zup_ne (by omega), zup_ne (by omega), zup_ne (by omega), zup_ne (by omega), zup_at]
  have kX : cX h k := fun a j w => by rw [kn a j (by omega) (by omega) (by omega), g3 a j (by omega)]
  have kC : cC u N k := ⟨by rw [kX 4 1 (by omega)]; exact hc.1, hN, fun i hi => by rw [kX 5 i (by omega)]; exact hc.2.2.1 i hi, kP⟩
  have kR : cR of t0 k := by
    refine ⟨fun e => ?_, fun e => ?_, fun e => ?_⟩
    · subst e
      exact (g4 t0 ht).fr (fun a j w1 w2 => kn a j (by omega) (by omega) (by omega))
    · subst e
      have z : t0 0 = 0 := by rw [ht 0 (by decide)]; rfl
      exact ⟨by rw [k100, z], fun j hj => by omega⟩
    · subst e
      have z0 : t0 0 = 0 := by rw [ht 0 (by decide)]; rfl
      have z1 : t0 1 = 0 := by rw [ht 1 (by decide)]; rfl
      exact ⟨by rw [k110, z0], by rw [k113, z1], fun j hj => by omega, fun j hj => by omega⟩
  obtain ⟨h2, r1, r2, r3, r4⟩ := read_l (u := u) (N := N) hof 700 0 0 n (0, -1) k t0 (-1) (-1) (by omega) (by omega) (by omega) (by omega) kC k9 ⟨k3, k4, t0, kR, tI_W hof ht, fun _ => rfl⟩ (fun _ => cI_0 hof ht)
  exact ⟨h2, r1, r2, fun a j w => by rw [r3 a j w]; exact kX a j w, r4⟩
end
section
/-! the class: what is read is kept -/
/-- cells d .. d+7 are taken from s .. s+7, so far as F says -/
def cpR (F : Nat → Nat → Prop) (d s : Nat) (h g : yH) : Prop := (∀ r j, F r j → r ≤ 7 ∧ g (d + r) j = h (s + r) j) ∧ ∀ a j, ¬ (d ≤ a ∧ F (a - d) j) → g a j = h a j
theorem cp_0 (d s : Nat) (h : yH) : cpR (fun _ _ => False) d s h h := ⟨fun _ _ w => w.elim, fun _ _ _ => rfl⟩
theorem cpR.s0 {F : Nat → Nat → Prop} {d s r j : Nat} {h g : yH} (R : cpR F d s h g) (hd : d + 8 ≤ s ∨ s + 8 ≤ d) (hr : r ≤ 7) : g (s + r) j = h (s + r) j := by
  refine R.2 _ _ (fun w => ?_)
  have := (R.1 _ _ w.2).1
  omega
theorem cpR.d0 {F : Nat → Nat → Prop} {d s j : Nat} {h g : yH} (R : cpR F d s h g) (hF : ¬ F 0 j) : g d j = h d j := R.2 _ _ (fun w => hF (by have := w.2; rw [Nat.sub_self] at this; exact this))
theorem cp_up {F : Nat → Nat → Prop} {d s J : Nat} {h g : yH} (R : cpR F d s h g) (hd : d + 8 ≤ s ∨ s + 8 ≤ d) : cpR (fun r j => F r j ∨ (r = 0 ∧ j = J)) d s h (zup g d J (g s J)) := by
  have hs : g s J = h s J := R.s0 (r := 0) hd (by omega)
  refine ⟨fun r j w => ?_, fun a j w => ?_⟩
  · by_cases c : r = 0 ∧ j = J
    · rw [c.1, c.2, Nat.add_zero, Nat.add_zero, zup_at, hs]
      exact ⟨by omega, rfl⟩
    · have w2 : F r j := w.resolve_right c
      rw [zup_ne (by omega)]
      exact R.1 r j w2
  · rw [zup_ne (fun c => w ⟨by omega, Or.inr ⟨by omega, c.2⟩⟩)]
    exact R.2 a j (fun c => w ⟨c.1, Or.inl c.2⟩)
theorem cp_cy {F : Nat → Nat → Prop} {d s r0 L : Nat} {h g : yH} (R : cpR F d s h g) (hd : d + 8 ≤ s ∨ s + 8 ≤ d) (hr : r0 ≤ 7) : cpR (fun r j => F r j ∨ (r = r0 ∧ j < L)) d s h (zcy g (d + r0) (s + r0) 0 0 L) := by
  refine ⟨fun r j w => ?_, fun a j w => ?_⟩
  · rw [zcy_app]
    by_cases c : r = r0 ∧ j < L
    · rw [if_pos (by omega), show 0 + (j - 0) = j by omega, c.1]
      exact ⟨hr, R.s0 hd hr⟩
    · rw [if_neg (by omega)]
      exact R.1 r j (w.resolve_right c)
  · rw [zcy_app, if_neg (fun c => w ⟨by omega, Or.inr ⟨by omega, by omega⟩⟩)]
    exact R.2 a j (fun c => w ⟨c.1, Or.inl c.2⟩)
theorem xh_e (h : yH) (k : yH → yO) : xh h k = k h := rfl
set_option maxHeartbeats 1000000 in
theorem copy6 {n d s : Nat} {t : Nat → Int} {h : yH} (hd : d + 8 ≤ s ∨ s + 8 ≤ d) (pd : h d 5 = (d : Int) + 1 ∧ h d 7 = (d : Int) + 2 ∧ h d 8 = (d : Int) + 3 ∧ h d 9 = (d : Int) + 4 ∧ h d 11 = (d : Int) + 5 ∧ h d 12 = (d : Int) + 6 ∧ h d 13 = (d : Int) + 7) (ps : h s 5 = (s : Int) + 1 ∧ h s 7 = (s : Int) + 2 ∧ h s 8 = (s : Int) + 3 ∧ h s 9 = (s : Int) + 4 ∧ h s 11 = (s : Int) + 5 ∧ h s 12 = (s : Int) + 6 ∧ h s 13 = (s : Int) + 7) (hS : cS s t h) (hW : tW0 t) : ∃ h2, f_X6_copyFrom n [(d : Int), (s : Int)] h = some (0, h2) ∧ cS d t h2 ∧ ∀ a j, ¬ (d ≤ a ∧ a ≤ d + 7) ∨ (a = d ∧ (j = 5 ∨ j = 7 ∨ j = 8 ∨ j = 9 ∨ j = 11 ∨ j = 12 ∨ j = 13)) → h2 a j = h a j := by
  obtain ⟨pd5, pd7, pd8, pd9, pd11, pd12, pd13⟩ := pd
  obtain ⟨ps5, ps7, ps8, ps9, ps11, ps12, ps13⟩ := ps
  obtain ⟨a0, a1, a2, a3, a4, a5, a6, a7, a8, a9, a10⟩ := hS
  have w5 : 0 ≤ t 5 ∧ t 5 ≤ 4 := hW.2.2.2.2.2.1
  have w6 : 0 ≤ t 6 ∧ t 6 ≤ 6 := hW.2.2.2.2.2.2.1
  have b0 : 0 ≤ h s 0 ∧ h s 0 ≤ 8 := by have := hW.1; omega
  have b1 : 0 ≤ h s 1 ∧ h s 1 ≤ 8 := by have := hW.2.1; omega
  have b2 : 0 ≤ h s 2 ∧ h s 2 ≤ 3 := by have := hW.2.2.1; omega
  have b6 : 0 ≤ h s 6 ∧ h s 6 ≤ 4 := by omega
  have b10 : 0 ≤ h s 10 ∧ h s 10 ≤ 6 := by omega
  rw [e_X6_copyFrom]
  simp only [Int.toNat_natCast]
  have R0 := cp_0 d s h
  have hs : ∀ {F : Nat → Nat → Prop} {g : yH} {j : Nat}, cpR F d s h g → g s j = h s j := fun R => R.s0 (r := 0) hd (by omega)
  rw [xg_pos (by rw [hs R0]; exact b0)]
  have R1 := cp_up (J := 0) R0 hd
  rw [xh_e]
  generalize zup h d 0 (h s 0) = g1 at R1 ⊢
  rw [xg_pos (by rw [hs R1]; exact b1)]
  have R2 := cp_up (J := 1) R1 hd
  rw [xh_e]
  generalize zup g1 d 1 (g1 s 1) = g2 at R2 ⊢
  rw [xg_pos (by rw [hs R2]; exact b2)]
  have R3 := cp_up (J := 2) R2 hd
  rw [xh_e]
  generalize zup g2 d 2 (g2 s 2) = g3 at R3 ⊢
  have R4 := cp_up (J := 3) R3 hd
  rw [xh_e]
  generalize zup g3 d 3 (g3 s 3) = g4 at R4 ⊢
  have R5 := cp_up (J := 4) R4 hd
  rw [xh_e]
  generalize zup g4 d 4 (g4 s 4) = g5 at R5 ⊢
  rw [xg_pos (show g5 s 5 = (s : Int) + 1 by rw [hs R5]; exact ps5), xg_pos (show g5 d 5 = (d : Int) + 1 by rw [R5.d0 (by simp)]; exact pd5), xg_pos (show g5 d 5 = (d : Int) + 1 by rw [R5.d0 (by simp)]; exact pd5)]
  rw [show ((d : Int) + 1).toNat = d + 1 by omega, show ((s : Int) + 1).toNat = s + 1 by omega]
  have R6 := cp_cy (r0 := 1) (L := 12) R5 hd (by decide)
  rw [xh_e]
  generalize zcy g5 (d + 1) (s + 1) 0 0 12 = g6 at R6 ⊢
  rw [xg_pos (by rw [hs R6]; exact b6)]
  have R7 := cp_up (J := 6) R6 hd
  rw [xh_e]
  generalize zup g6 d 6 (g6 s 6) = g7 at R7 ⊢
  rw [xg_pos (show g7 s 7 = (s : Int) + 2 by rw [hs R7]; exact ps7), xg_pos (show g7 d 7 = (d : Int) + 2 by rw [R7.d0 (by simp)]; exact pd7)]
  rw [show ((d : Int) + 2).toNat = d + 2 by omega, show ((s : Int) + 2).toNat = s + 2 by omega]
  have R8 := cp_cy (r0 := 2) (L := 4) R7 hd (by decide)
  rw [xh_e]
  generalize zcy g7 (d + 2) (s + 2) 0 0 4 = g8 at R8 ⊢
  rw [xg_pos (show g8 s 8 = (s : Int) + 3 by rw [hs R8]; exact ps8), xg_pos (show g8 d 8 = (d : Int) + 3 by rw [R8.d0 (by simp)]; exact pd8)]
  rw [show ((d : Int) + 3).toNat = d + 3 by omega, show ((s : Int) + 3).toNat = s + 3 by omega]
  have R9 := cp_cy (r0 := 3) (L := 4) R8 hd (by decide)
  rw [xh_e]
  generalize zcy g8 (d + 3) (s + 3) 0 0 4 = g9 at R9 ⊢
  rw [xg_pos (show g9 s 9 = (s : Int) + 4 by rw [hs R9]; exact ps9), xg_pos (show g9 d 9 = (d : Int) + 4 by rw [R9.d0 (by simp)]; exact pd9)]
  rw [show ((d : Int) + 4).toNat = d + 4 by omega, show ((s : Int) + 4).toNat = s + 4 by omega]
  have R10 := cp_cy (r0 := 4) (L := 4) R9 hd (by decide)
  rw [xh_e]
  generalize zcy g9 (d + 4) (s + 4) 0 0 4 = g10 at R10 ⊢
  rw [xg_pos (by rw [hs R10]; exact b10)]
  have R11 := cp_up (J := 10) R10 hd
  rw [xh_e]
  generalize zup g10 d 10 (g10 s 10) = g11 at R11 ⊢
  rw [xg_pos (show g11 s 11 = (s : Int) + 5 by rw [hs R11]; exact ps11), xg_pos (show g11 d 11 = (d : Int) + 5 by rw [R11.d0 (by simp)]; exact pd11)]
  rw [show ((d : Int) + 5).toNat = d + 5 by omega, show ((s : Int) + 5).toNat = s + 5 by omega]
  have R12 := cp_cy (r0 := 5) (L := 6) R11 hd (by decide)
  rw [xh_e]
  generalize zcy g11 (d + 5) (s + 5) 0 0 6 = g12 at R12 ⊢
  rw [xg_pos (show g12 s 12 = (s : Int) + 6 by rw [hs R12]; exact ps12), xg_pos (show g12 d 12 = (d : Int) + 6 by rw [R12.d0 (by simp)]; exact pd12)]
  rw [show ((d : Int) + 6).toNat = d + 6 by omega, show ((s : Int) + 6).toNat = s + 6 by omega]
  have R13 := cp_cy (r0 := 6) (L := 6) R12 hd (by decide)
  rw [xh_e]
  generalize zcy g12 (d + 6) (s + 6) 0 0 6 = g13 at R13 ⊢
  rw [xg_pos (show g13 s 13 = (s : Int) + 7 by rw [hs R13]; exact ps13), xg_pos (show g13 d 13 = (d : Int) + 7 by rw [R13.d0 (by simp)]; exact pd13)]
  rw [show ((d : Int) + 7).toNat = d + 7 by omega, show ((s : Int) + 7).toNat = s + 7 by omega]
  have R14 := cp_cy (r0 := 7) (L := 6) R13 hd (by decide)
  rw [xh_e]
  generalize zcy g13 (d + 7) (s + 7) 0 0 6 = g14 at R14 ⊢
  have R15 := cp_up (J := 14) R14 hd
  rw [xh_e]
  generalize zup g14 d 14 (g14 s 14) = g15 at R15 ⊢
  have F0 : g15 d 0 = h s 0 := (R15.1 0 0 (Or.inl (Or.inl (Or.inl (Or.inl (Or.inl (Or.inl (Or.inl (Or.inl (Or.inl (Or.inl (Or.inl (Or.inl (Or.inl (Or.inl (Or.inr ⟨rfl, rfl⟩)))))))))))))))).2
  have F1 : g15 d 1 = h s 1 := (R15.1 0 1 (Or.inl (Or.inl (Or.inl (Or.inl (Or.inl (Or.inl (Or.inl (Or.inl (Or.inl (Or.inl (Or.inl (Or.inl (Or.inl (Or.inr ⟨rfl, rfl⟩))))))))))))))).2
  have F2 : g15 d 2 = h s 2 := (R15.1 0 2 (Or.inl (Or.inl (Or.inl (Or.inl (Or.inl (Or.inl (Or.inl (Or.inl (Or.inl (Or.inl (Or.inl (Or.inl (Or.inr ⟨rfl, rfl⟩)))))))))))))).2
  have F3 : g15 d 3 = h s 3 := (R15.1 0 3 (Or.inl (Or.inl (Or.inl (Or.inl (Or.inl (Or.inl (Or.inl (Or.inl (Or.inl (Or.inl (Or.inl (Or.inr ⟨rfl, rfl⟩))))))))))))).2
  have F4 : g15 d 4 = h s 4 := (R15.1 0 4 (Or.inl (Or.inl (Or.inl (Or.inl (Or.inl (Or.inl (Or.inl (Or.inl (Or.inl (Or.inl (Or.inr ⟨rfl, rfl⟩)))))))))))).2
  have B1 : ∀ j, j < 12 → g15 (d + 1) j = h (s + 1) j := fun j w => (R15.1 1 j (Or.inl (Or.inl (Or.inl (Or.inl (Or.inl (Or.inl (Or.inl (Or.inl (Or.inl (Or.inr ⟨rfl, w⟩))))))))))).2
  have F6 : g15 d 6 = h s 6 := (R15.1 0 6 (Or.inl (Or.inl (Or.inl (Or.inl (Or.inl (Or.inl (Or.inl (Or.inl (Or.inr ⟨rfl, rfl⟩)))))))))).2
  have B2 : ∀ j, j < 4 → g15 (d + 2) j = h (s + 2) j := fun j w => (R15.1 2 j (Or.inl (Or.inl (Or.inl (Or.inl (Or.inl (Or.inl (Or.inl (Or.inr ⟨rfl, w⟩))))))))).2
  have B3 : ∀ j, j < 4 → g15 (d + 3) j = h (s + 3) j := fun j w => (R15.1 3 j (Or.inl (Or.inl (Or.inl (Or.inl (Or.inl (Or.inl (Or.inr ⟨rfl, w⟩)))))))).2
  have B4 : ∀ j, j < 4 → g15 (d + 4) j = h (s + 4) j := fun j w => (R15.1 4 j (Or.inl (Or.inl (Or.inl (Or.inl (Or.inl (Or.inr ⟨rfl, w⟩))))))).2
  have F10 : g15 d 10 = h s 10 := (R15.1 0 10 (Or.inl (Or.inl (Or.inl (Or.inl (Or.inr ⟨rfl, rfl⟩)))))).2
  have B5 : ∀ j, j < 6 → g15 (d + 5) j = h (s + 5) j := fun j w => (R15.1 5 j (Or.inl (Or.inl (Or.inl (Or.inr ⟨rfl, w⟩))))).2
  have B6 : ∀ j, j < 6 → g15 (d + 6) j = h (s + 6) j := fun j w => (R15.1 6 j (Or.inl (Or.inl (Or.inr ⟨rfl, w⟩)))).2
  have B7 : ∀ j, j < 6 → g15 (d + 7) j = h (s + 7) j := fun j w => (R15.1 7 j (Or.inl (Or.inr ⟨rfl, w⟩))).2
  have F14 : g15 d 14 = h s 14 := (R15.1 0 14 (Or.inr ⟨rfl, rfl⟩)).2
  refine ⟨g15, rfl, ?_, fun a j w => R15.2 a j (fun c => ?_)⟩
  · exact ⟨F0.trans a0, F1.trans a1, F2.trans a2, F3.trans a3, F4.trans a4, F6.trans a5, F10.trans a6, F14.trans a7, fun i hi => (B1 i (by omega)).trans (a8 i hi), fun k hk => ⟨(B2 k (by omega)).trans (a9 k hk).1, (B3 k (by omega)).trans (a9 k hk).2.1, (B4 k (by omega)).trans (a9 k hk).2.2⟩, fun k hk => ⟨(B5 k (by omega)).trans (a10 k hk).1, (B6 k (by omega)).trans (a10 k hk).2.1, (B7 k (by omega)).trans (a10 k hk).2.2⟩⟩
  · obtain ⟨c1, c2⟩ := c
    rcases c2 with ((((((((((((((c2 | c2) | c2) | c2) | c2) | c2) | c2) | c2) | c2) | c2) | c2) | c2) | c2) | c2) | c2) | c2 <;> first | exact c2.elim | omega
set_option maxHeartbeats 1000000 in
theorem copy1 {n d s : Nat} {t : Nat → Int} {h : yH} (hd : d + 8 ≤ s ∨ s + 8 ≤ d) (pd : h d 1 = (d : Int) + 1 ∧ h d 2 = (d : Int) + 2) (ps : h s 1 = (s : Int) + 1 ∧ h s 2 = (s : Int) + 2) (hS : cD s t h) (hW : tW1 t) : ∃ h2, f_X1_copyFrom n [(d : Int), (s : Int)] h = some (0, h2) ∧ cD d t h2 ∧ ∀ a j, ¬ (d ≤ a ∧ a ≤ d + 7) ∨ (a = d ∧ (j = 1 ∨ j = 2)) → h2 a j = h a j := by
  obtain ⟨pd1, pd2⟩ := pd
  obtain ⟨ps1, ps2⟩ := ps
  obtain ⟨a0, a1⟩ := hS
  have w0 : 0 ≤ t 0 ∧ t 0 ≤ 30 := hW.1
  have b0 : 0 ≤ h s 0 ∧ h s 0 ≤ 30 := by omega
  rw [e_X1_copyFrom]
  simp only [Int.toNat_natCast]
  have R0 := cp_0 d s h
  have hs : ∀ {F : Nat → Nat → Prop} {g : yH} {j : Nat}, cpR F d s h g → g s j = h s j := fun R => R.s0 (r := 0) hd (by omega)
  rw [xg_pos (by rw [hs R0]; exact b0)]
  have R1 := cp_up (J := 0) R0 hd
  rw [xh_e]
  generalize zup h d 0 (h s 0) = g1 at R1 ⊢
  rw [xg_pos (show g1 s 1 = (s : Int) + 1 by rw [hs R1]; exact ps1), xg_pos (show g1 d 1 = (d : Int) + 1 by rw [R1.d0 (by simp)]; exact pd1)]
  rw [show ((d : Int) + 1).toNat = d + 1 by omega, show ((s : Int) + 1).toNat = s + 1 by omega]
  have R2 := cp_cy (r0 := 1) (L := 30) R1 hd (by decide)
  rw [xh_e]
  generalize zcy g1 (d + 1) (s + 1) 0 0 30 = g2 at R2 ⊢
  rw [xg_pos (show g2 s 2 = (s : Int) + 2 by rw [hs R2]; exact ps2), xg_pos (show g2 d 2 = (d : Int) + 2 by rw [R2.d0 (by simp)]; exact pd2), xg_pos (show g2 d 2 = (d : Int) + 2 by rw [R2.d0 (by simp)]; exact pd2)]
  rw [show ((d : Int) + 2).toNat = d + 2 by omega, show ((s : Int) + 2).toNat = s + 2 by omega]
  have R3 := cp_cy (r0 := 2) (L := 90) R2 hd (by decide)
  rw [xh_e]
  generalize zcy g2 (d + 2) (s + 2) 0 0 90 = g3 at R3 ⊢
  have F0 : g3 d 0 = h s 0 := (R3.1 0 0 (Or.inl (Or.inl (Or.inr ⟨rfl, rfl⟩)))).2
  have B1 : ∀ j, j < 30 → g3 (d + 1) j = h (s + 1) j := fun j w => (R3.1 1 j (Or.inl (Or.inr ⟨rfl, w⟩))).2
  have B2 : ∀ j, j < 90 → g3 (d + 2) j = h (s + 2) j := fun j w => (R3.1 2 j (Or.inr ⟨rfl, w⟩)).2
  refine ⟨g3, rfl, ?_, fun a j w => R3.2 a j (fun c => ?_)⟩
  · exact ⟨F0.trans a0, fun k hk => ⟨(B1 k (by omega)).trans (a1 k hk).1, (B2 (3 * k) (by omega)).trans (a1 k hk).2.1, (B2 (3 * k + 1) (by omega)).trans (a1 k hk).2.2.1, (B2 (3 * k + 2) (by omega)).trans (a1 k hk).2.2.2⟩⟩
  · obtain ⟨c1, c2⟩ := c
    rcases c2 with ((c2 | c2) | c2) | c2 <;> first | exact c2.elim | omega
set_option maxHeartbeats 1000000 in
theorem copy2 {n d s : Nat} {t : Nat → Int} {h : yH} (hd : d + 8 ≤ s ∨ s + 8 ≤ d) (pd : h d 1 = (d : Int) + 1 ∧ h d 2 = (d : Int) + 2 ∧ h d 4 = (d : Int) + 3 ∧ h d 5 = (d : Int) + 4) (ps : h s 1 = (s : Int) + 1 ∧ h s 2 = (s : Int) + 2 ∧ h s 4 = (s : Int) + 3 ∧ h s 5 = (s : Int) + 4) (hS : cQ s t h) (hW : tW2 t) : ∃ h2, f_X2_copyFrom n [(d : Int), (s : Int)] h = some (0, h2) ∧ cQ d t h2 ∧ ∀ a j, ¬ (d ≤ a ∧ a ≤ d + 7) ∨ (a = d ∧ (j = 1 ∨ j = 2 ∨ j = 4 ∨ j = 5)) → h2 a j = h a j := by
  obtain ⟨pd1, pd2, pd4, pd5⟩ := pd
  obtain ⟨ps1, ps2, ps4, ps5⟩ := ps
  obtain ⟨a0, a1, a2, a3⟩ := hS
  have w0 : 0 ≤ t 0 ∧ t 0 ≤ 9 := hW.1
  have w1 : 0 ≤ t 1 ∧ t 1 ≤ 16 := hW.2.1
  have b0 : 0 ≤ h s 0 ∧ h s 0 ≤ 9 := by omega
  have b3 : 0 ≤ h s 3 ∧ h s 3 ≤ 16 := by omega
  rw [e_X2_copyFrom]
  simp only [Int.toNat_natCast]
  have R0 := cp_0 d s h
  have hs : ∀ {F : Nat → Nat → Prop} {g : yH} {j : Nat}, cpR F d s h g → g s j = h s j := fun R => R.s0 (r := 0) hd (by omega)
  rw [xg_pos (by rw [hs R0]; exact b0)]
  have R1 := cp_up (J := 0) R0 hd
  rw [xh_e]
  generalize zup h d 0 (h s 0) = g1 at R1 ⊢
  rw [xg_pos (show g1 s 1 = (s : Int) + 1 by rw [hs R1]; exact ps1), xg_pos (show g1 d 1 = (d : Int) + 1 by rw [R1.d0 (by simp)]; exact pd1)]
  rw [show ((d : Int) + 1).toNat = d + 1 by omega, show ((s : Int) + 1).toNat = s + 1 by omega]
  have R2 := cp_cy (r0 := 1) (L := 9) R1 hd (by decide)
  rw [xh_e]
  generalize zcy g1 (d + 1) (s + 1) 0 0 9 = g2 at R2 ⊢
  rw [xg_pos (show g2 s 2 = (s : Int) + 2 by rw [hs R2]; exact ps2), xg_pos (show g2 d 2 = (d : Int) + 2 by rw [R2.d0 (by simp)]; exact pd2)]
  rw [show ((d : Int) + 2).toNat = d + 2 by omega, show ((s : Int) + 2).toNat = s + 2 by omega]
  have R3 := cp_cy (r0 := 2) (L := 9) R2 hd (by decide)
  rw [xh_e]
  generalize zcy g2 (d + 2) (s + 2) 0 0 9 = g3 at R3 ⊢
  rw [xg_pos (by rw [hs R3]; exact b3)]
  have R4 := cp_up (J := 3) R3 hd
  rw [xh_e]
  generalize zup g3 d 3 (g3 s 3) = g4 at R4 ⊢
  rw [xg_pos (show g4 s 4 = (s : Int) + 3 by rw [hs R4]; exact ps4), xg_pos (show g4 d 4 = (d : Int) + 3 by rw [R4.d0 (by simp)]; exact pd4)]
  rw [show ((d : Int) + 3).toNat = d + 3 by omega, show ((s : Int) + 3).toNat = s + 3 by omega]
  have R5 := cp_cy (r0 := 3) (L := 16) R4 hd (by decide)
  rw [xh_e]
  generalize zcy g4 (d + 3) (s + 3) 0 0 16 = g5 at R5 ⊢
  rw [xg_pos (show g5 s 5 = (s : Int) + 4 by rw [hs R5]; exact ps5), xg_pos (show g5 d 5 = (d : Int) + 4 by rw [R5.d0 (by simp)]; exact pd5)]
  rw [show ((d : Int) + 4).toNat = d + 4 by omega, show ((s : Int) + 4).toNat = s + 4 by omega]
  have R6 := cp_cy (r0 := 4) (L := 16) R5 hd (by decide)
  rw [xh_e]
  generalize zcy g5 (d + 4) (s + 4) 0 0 16 = g6 at R6 ⊢
  have F0 : g6 d 0 = h s 0 := (R6.1 0 0 (Or.inl (Or.inl (Or.inl (Or.inl (Or.inl (Or.inr ⟨rfl, rfl⟩))))))).2
  have B1 : ∀ j, j < 9 → g6 (d + 1) j = h (s + 1) j := fun j w => (R6.1 1 j (Or.inl (Or.inl (Or.inl (Or.inl (Or.inr ⟨rfl, w⟩)))))).2
  have B2 : ∀ j, j < 9 → g6 (d + 2) j = h (s + 2) j := fun j w => (R6.1 2 j (Or.inl (Or.inl (Or.inl (Or.inr ⟨rfl, w⟩))))).2
  have F3 : g6 d 3 = h s 3 := (R6.1 0 3 (Or.inl (Or.inl (Or.inr ⟨rfl, rfl⟩)))).2
  have B3 : ∀ j, j < 16 → g6 (d + 3) j = h (s + 3) j := fun j w => (R6.1 3 j (Or.inl (Or.inr ⟨rfl, w⟩))).2
  have B4 : ∀ j, j < 16 → g6 (d + 4) j = h (s + 4) j := fun j w => (R6.1 4 j (Or.inr ⟨rfl, w⟩)).2
  refine ⟨g6, rfl, ?_, fun a j w => R6.2 a j (fun c => ?_)⟩
  · exact ⟨F0.trans a0, F3.trans a1, fun k hk => ⟨(B1 k (by omega)).trans (a2 k hk).1, (B2 k (by omega)).trans (a2 k hk).2⟩, fun k hk => ⟨(B3 k (by omega)).trans (a3 k hk).1, (B4 k (by omega)).trans (a3 k hk).2⟩⟩
  · obtain ⟨c1, c2⟩ := c
    rcases c2 with (((((c2 | c2) | c2) | c2) | c2) | c2) | c2 <;> first | exact c2.elim | omega
end
section
/-! the class: keep() -/
def cO (of k : Nat) (t : Nat → Int) (h : yH) : Prop := (of = 0 → cS (20 + 10 * k) t h) ∧ (of = 1 → cD (40 + 10 * k) t h) ∧ (of = 2 → cQ (60 + 10 * k) t h)
theorem keep_00 {n : Nat} {t : Nat → Int} {h : yH} (hP : cP h) (hS : cS 90 t h) (hW : tW0 t) (hm : 0 ≤ h 6 0 ∧ h 6 0 ≤ 2) : ∃ h2, f_X9_keep n [3, 80, 0, 0] h = some (0, h2) ∧ h2 6 0 = max (h 6 0) (0 + 1) ∧ cS 20 t h2 ∧ ∀ a j, ¬ (a = 6 ∧ j = 0) → (¬ (20 ≤ a ∧ a ≤ 27) ∨ (a = 20 ∧ (j = 5 ∨ j = 7 ∨ j = 8 ∨ j = 9 ∨ j = 11 ∨ j = 12 ∨ j = 13))) → h2 a j = h a j := by
  obtain ⟨h3, c1, c2, c3⟩ := copy6 (n := n) (d := 20) (s := 90) (t := t) (h := h) (by omega) ⟨hP.p (by decide), hP.p (by decide), hP.p (by decide), hP.p (by decide), hP.p (by decide), hP.p (by decide), hP.p (by decide)⟩ ⟨hP.p (by decide), hP.p (by decide), hP.p (by decide), hP.p (by decide), hP.p (by decide), hP.p (by decide), hP.p (by decide)⟩ hS hW
  have e6 : h3 6 0 = h 6 0 := c3 6 0 (by omega)
  have e31 : h3 3 1 = 6 := by rw [c3 3 1 (by omega)]; exact hP.p (by decide)
  have c1' : f_X6_copyFrom n [(7 + 13 + 10 * 0 : Int), 90] h = some (0, h3) := c1
  rw [e_X9_keep, if_pos (by decide), xg_pos (hP.p (by decide)), xg_pos (by decide), xg_pos (show h 7 (0 : Int).toNat = (7 + 13 + 10 * 0 : Int) from hP.p (by decide)), xg_pos (hP.p (by decide)), c1', xb_some, xg_pos e31, xg_pos e31, xg_pos (by decide), xg_pos (by decide), xg_pos (by decide), show (0 : Int).toNat = 0 from rfl, xg_pos (show 0 ≤ max (h3 6 0) (0 + 1) ∧ max (h3 6 0) (0 + 1) ≤ 2 by rw [e6]; omega)]
  refine ⟨_, rfl, ?_, c2.fr (fun a j w1 w2 => zup_ne (by omega)), fun a j w1 w2 => ?_⟩
  · show zup h3 6 0 (max (h3 6 0) (0 + 1)) 6 0 = _
    rw [zup_at, e6]
  · show zup h3 6 0 (max (h3 6 0) (0 + 1)) a j = _
    rw [zup_ne w1]
    exact c3 a j w2
theorem keep_01 {n : Nat} {t : Nat → Int} {h : yH} (hP : cP h) (hS : cS 90 t h) (hW : tW0 t) (hm : 0 ≤ h 6 0 ∧ h 6 0 ≤ 2) : ∃ h2, f_X9_keep n [3, 80, 0, 1] h = some (0, h2) ∧ h2 6 0 = max (h 6 0) (1 + 1) ∧ cS 30 t h2 ∧ ∀ a j, ¬ (a = 6 ∧ j = 0) → (¬ (30 ≤ a ∧ a ≤ 37) ∨ (a = 30 ∧ (j = 5 ∨ j = 7 ∨ j = 8 ∨ j = 9 ∨ j = 11 ∨ j = 12 ∨ j = 13))) → h2 a j = h a j := by
  obtain ⟨h3, c1, c2, c3⟩ := copy6 (n := n) (d := 30) (s := 90) (t := t) (h := h) (by omega) ⟨hP.p (by decide), hP.p (by decide), hP.p (by decide), hP.p (by decide), hP.p (by decide), hP.p (by decide), hP.p (by decide)⟩ ⟨hP.p (by decide), hP.p (by decide), hP.p (by decide), hP.p (by decide), hP.p (by decide), hP.p (by decide), hP.p (by decide)⟩ hS hW
  have e6 : h3 6 0 = h 6 0 := c3 6 0 (by omega)
  have e31 : h3 3 1 = 6 := by rw [c3 3 1 (by omega)]; exact hP.p (by decide)
  have c1' : f_X6_copyFrom n [(7 + 13 + 10 * 1 : Int), 90] h = some (0, h3) := c1
  rw [e_X9_keep, if_pos (by decide), xg_pos (hP.p (by decide)), xg_pos (by decide), xg_pos (show h 7 (1 : Int).toNat = (7 + 13 + 10 * 1 : Int) from hP.p (by decide)), xg_pos (hP.p (by decide)), c1', xb_some, xg_pos e31, xg_pos e31, xg_pos (by decide), xg_pos (by decide), xg_pos (by decide), show (0 : Int).toNat = 0 from rfl, xg_pos (show 0 ≤ max (h3 6 0) (1 + 1) ∧ max (h3 6 0) (1 + 1) ≤ 2 by rw [e6]; omega)]
  refine ⟨_, rfl, ?_, c2.fr (fun a j w1 w2 => zup_ne (by omega)), fun a j w1 w2 => ?_⟩
  · show zup h3 6 0 (max (h3 6 0) (1 + 1)) 6 0 = _
    rw [zup_at, e6]
  · show zup h3 6 0 (max (h3 6 0) (1 + 1)) a j = _
    rw [zup_ne w1]
    exact c3 a j w2
theorem keep_10 {n : Nat} {t : Nat → Int} {h : yH} (hP : cP h) (hS : cD 100 t h) (hW : tW1 t) (hm : 0 ≤ h 6 1 ∧ h 6 1 ≤ 2) : ∃ h2, f_X9_keep n [3, 80, 1, 0] h = some (0, h2) ∧ h2 6 1 = max (h 6 1) (0 + 1) ∧ cD 40 t h2 ∧ ∀ a j, ¬ (a = 6 ∧ j = 1) → (¬ (40 ≤ a ∧ a ≤ 47) ∨ (a = 40 ∧ (j = 1 ∨ j = 2))) → h2 a j = h a j := by
  obtain ⟨h3, c1, c2, c3⟩ := copy1 (n := n) (d := 40) (s := 100) (t := t) (h := h) (by omega) ⟨hP.p (by decide), hP.p (by decide)⟩ ⟨hP.p (by decide), hP.p (by decide)⟩ hS hW
  have e6 : h3 6 1 = h 6 1 := c3 6 1 (by omega)
  have e31 : h3 3 1 = 6 := by rw [c3 3 1 (by omega)]; exact hP.p (by decide)
  have c1' : f_X1_copyFrom n [(8 + 32 + 10 * 0 : Int), 100] h = some (0, h3) := c1
  rw [e_X9_keep, if_neg (by decide), if_pos (by decide), xg_pos (hP.p (by decide)), xg_pos (by decide), xg_pos (show h 8 (0 : Int).toNat = (8 + 32 + 10 * 0 : Int) from hP.p (by decide)), xg_pos (hP.p (by decide)), c1', xb_some, xg_pos e31, xg_pos e31, xg_pos (by decide), xg_pos (by decide), xg_pos (by decide), show (1 : Int).toNat = 1 from rfl, xg_pos (show 0 ≤ max (h3 6 1) (0 + 1) ∧ max (h3 6 1) (0 + 1) ≤ 2 by rw [e6]; omega)]
  refine ⟨_, rfl, ?_, c2.fr (fun a j w1 w2 => zup_ne (by omega)), fun a j w1 w2 => ?_⟩
  · show zup h3 6 1 (max (h3 6 1) (0 + 1)) 6 1 = _
    rw [zup_at, e6]
  · show zup h3 6 1 (max (h3 6 1) (0 + 1)) a j = _
    rw [zup_ne w1]
    exact c3 a j w2
theorem keep_11 {n : Nat} {t : Nat → Int} {h : yH} (hP : cP h) (hS : cD 100 t h) (hW : tW1 t) (hm : 0 ≤ h 6 1 ∧ h 6 1 ≤ 2) : ∃ h2, f_X9_keep n [3, 80, 1, 1] h = some (0, h2) ∧ h2 6 1 = max (h 6 1) (1 + 1) ∧ cD 50 t h2 ∧ ∀ a j, ¬ (a = 6 ∧ j = 1) → (¬ (50 ≤ a ∧ a ≤ 57) ∨ (a = 50 ∧ (j = 1 ∨ j = 2))) → h2 a j = h a j := by
  obtain ⟨h3, c1, c2, c3⟩ := copy1 (n := n) (d := 50) (s := 100) (t := t) (h := h) (by omega) ⟨hP.p (by decide), hP.p (by decide)⟩ ⟨hP.p (by decide), hP.p (by decide)⟩ hS hW
  have e6 : h3 6 1 = h 6 1 := c3 6 1 (by omega)
  have e31 : h3 3 1 = 6 := by rw [c3 3 1 (by omega)]; exact hP.p (by decide)
  have c1' : f_X1_copyFrom n [(8 + 32 + 10 * 1 : Int), 100] h = some (0, h3) := c1
  rw [e_X9_keep, if_neg (by decide), if_pos (by decide), xg_pos (hP.p (by decide)), xg_pos (by decide), xg_pos (show h 8 (1 : Int).toNat = (8 + 32 + 10 * 1 : Int) from hP.p (by decide)), xg_pos (hP.p (by decide)), c1', xb_some, xg_pos e31, xg_pos e31, xg_pos (by decide), xg_pos (by decide), xg_pos (by decide), show (1 : Int).toNat = 1 from rfl, xg_pos (show 0 ≤ max (h3 6 1) (1 + 1) ∧ max (h3 6 1) (1 + 1) ≤ 2 by rw [e6]; omega)]
  refine ⟨_, rfl, ?_, c2.fr (fun a j w1 w2 => zup_ne (by omega)), fun a j w1 w2 => ?_⟩
  · show zup h3 6 1 (max (h3 6 1) (1 + 1)) 6 1 = _
    rw [zup_at, e6]
  · show zup h3 6 1 (max (h3 6 1) (1 + 1)) a j = _
    rw [zup_ne w1]
    exact c3 a j w2
theorem keep_20 {n : Nat} {t : Nat → Int} {h : yH} (hP : cP h) (hS : cQ 110 t h) (hW : tW2 t) (hm : 0 ≤ h 6 2 ∧ h 6 2 ≤ 2) : ∃ h2, f_X9_keep n [3, 80, 2, 0] h = some (0, h2) ∧ h2 6 2 = max (h 6 2) (0 + 1) ∧ cQ 60 t h2 ∧ ∀ a j, ¬ (a = 6 ∧ j = 2) → (¬ (60 ≤ a ∧ a ≤ 67) ∨ (a = 60 ∧ (j = 1 ∨ j = 2 ∨ j = 4 ∨ j = 5))) → h2 a j = h a j := by
  obtain ⟨h3, c1, c2, c3⟩ := copy2 (n := n) (d := 60) (s := 110) (t := t) (h := h) (by omega) ⟨hP.p (by decide), hP.p (by decide), hP.p (by decide), hP.p (by decide)⟩ ⟨hP.p (by decide), hP.p (by decide), hP.p (by decide), hP.p (by decide)⟩ hS hW
  have e6 : h3 6 2 = h 6 2 := c3 6 2 (by omega)
  have e31 : h3 3 1 = 6 := by rw [c3 3 1 (by omega)]; exact hP.p (by decide)
  have c1' : f_X2_copyFrom n [(9 + 51 + 10 * 0 : Int), 110] h = some (0, h3) := c1
  rw [e_X9_keep, if_neg (by decide), if_neg (by decide), xg_pos (hP.p (by decide)), xg_pos (by decide), xg_pos (show h 9 (0 : Int).toNat = (9 + 51 + 10 * 0 : Int) from hP.p (by decide)), xg_pos (hP.p (by decide)), c1', xb_some, xg_pos e31, xg_pos e31, xg_pos (by decide), xg_pos (by decide), xg_pos (by decide), show (2 : Int).toNat = 2 from rfl, xg_pos (show 0 ≤ max (h3 6 2) (0 + 1) ∧ max (h3 6 2) (0 + 1) ≤ 2 by rw [e6]; omega)]
  refine ⟨_, rfl, ?_, c2.fr (fun a j w1 w2 => zup_ne (by omega)), fun a j w1 w2 => ?_⟩
  · show zup h3 6 2 (max (h3 6 2) (0 + 1)) 6 2 = _
    rw [zup_at, e6]
  · show zup h3 6 2 (max (h3 6 2) (0 + 1)) a j = _
    rw [zup_ne w1]
    exact c3 a j w2
theorem keep_21 {n : Nat} {t : Nat → Int} {h : yH} (hP : cP h) (hS : cQ 110 t h) (hW : tW2 t) (hm : 0 ≤ h 6 2 ∧ h 6 2 ≤ 2) : ∃ h2, f_X9_keep n [3, 80, 2, 1] h = some (0, h2) ∧ h2 6 2 = max (h 6 2) (1 + 1) ∧ cQ 70 t h2 ∧ ∀ a j, ¬ (a = 6 ∧ j = 2) → (¬ (70 ≤ a ∧ a ≤ 77) ∨ (a = 70 ∧ (j = 1 ∨ j = 2 ∨ j = 4 ∨ j = 5))) → h2 a j = h a j := by
  obtain ⟨h3, c1, c2, c3⟩ := copy2 (n := n) (d := 70) (s := 110) (t := t) (h := h) (by omega) ⟨hP.p (by decide), hP.p (by decide), hP.p (by decide), hP.p (by decide)⟩ ⟨hP.p (by decide), hP.p (by decide), hP.p (by decide), hP.p (by decide)⟩ hS hW
  have e6 : h3 6 2 = h 6 2 := c3 6 2 (by omega)
  have e31 : h3 3 1 = 6 := by rw [c3 3 1 (by omega)]; exact hP.p (by decide)
  have c1' : f_X2_copyFrom n [(9 + 51 + 10 * 1 : Int), 110] h = some (0, h3) := c1
  rw [e_X9_keep, if_neg (by decide), if_neg (by decide), xg_pos (hP.p (by decide)), xg_pos (by decide), xg_pos (show h 9 (1 : Int).toNat = (9 + 51 + 10 * 1 : Int) from hP.p (by decide)), xg_pos (hP.p (by decide)), c1', xb_some, xg_pos e31, xg_pos e31, xg_pos (by decide), xg_pos (by decide), xg_pos (by decide), show (2 : Int).toNat = 2 from rfl, xg_pos (show 0 ≤ max (h3 6 2) (1 + 1) ∧ max (h3 6 2) (1 + 1) ≤ 2 by rw [e6]; omega)]
  refine ⟨_, rfl, ?_, c2.fr (fun a j w1 w2 => zup_ne (by omega)), fun a j w1 w2 => ?_⟩
  · show zup h3 6 2 (max (h3 6 2) (1 + 1)) 6 2 = _
    rw [zup_at, e6]
  · show zup h3 6 2 (max (h3 6 2) (1 + 1)) a j = _
    rw [zup_ne w1]
    exact c3 a j w2
end
section
/-! the class: text() -/
theorem numberFor_e {n : Nat} {sort at_ : Int} {h : yH} (hP : cP h) (hm : ∀ j, j < 3 → 0 ≤ h 6 j ∧ h 6 j ≤ 2) : f_X9_numberFor n [3, sort, at_] h = some (txK (h 6) sort at_, h) := by
  have p31 := hP.p (a := 3) (j := 1) (v := 6) (by decide)
  rw [e_X9_numberFor]
  unfold txK
  by_cases h1 : sort < 0
  · rw [if_pos h1, if_neg (show ¬ (0 ≤ sort ∧ sort ≤ 2) by omega)]
  · rw [if_neg h1]
    by_cases h2 : sort < 3
    · have hb := hm sort.toNat (by omega)
      rw [if_pos h2, if_pos (show 0 ≤ sort ∧ sort ≤ 2 by omega)]
      by_cases h3 : at_ = -1
      · rw [if_pos h3, if_pos h3, xg_pos p31, xg_pos (by omega)]
        by_cases h4 : h 6 sort.toNat < 2
        · rw [if_pos h4, xg_pos p31, xg_pos (by omega), if_neg (show ¬ h 6 sort.toNat = 2 by omega)]
        · rw [if_neg h4, if_pos (show h 6 sort.toNat = 2 by omega)]
      · rw [if_neg h3, if_neg h3]
        by_cases h4 : at_ < 0
        · rw [if_pos h4, if_neg (show ¬ (0 ≤ at_ ∧ at_ < h 6 sort.toNat) by omega)]
        · rw [if_neg h4, xg_pos p31, xg_pos (by omega)]
          by_cases h5 : at_ < h 6 sort.toNat
          · rw [if_pos h5, if_pos (show 0 ≤ at_ ∧ at_ < h 6 sort.toNat by omega)]
          · rw [if_neg h5, if_neg (show ¬ (0 ≤ at_ ∧ at_ < h 6 sort.toNat) by omega)]
    · rw [if_neg h2, if_neg (show ¬ (0 ≤ sort ∧ sort ≤ 2) by omega)]
theorem txK_b {m : Nat → Int} {sort at_ : Int} (hm : ∀ j, j < 3 → 0 ≤ m j ∧ m j ≤ 2) (hk : txK m sort at_ ≠ -2) : (0 ≤ sort ∧ sort ≤ 2) ∧ 0 ≤ txK m sort at_ ∧ txK m sort at_ < 2 := by
  unfold txK at hk ⊢
  by_cases h1 : 0 ≤ sort ∧ sort ≤ 2
  · have hb := hm sort.toNat (by omega)
    rw [if_pos h1] at hk ⊢
    refine ⟨h1, ?_⟩
    by_cases h2 : at_ = -1
    · rw [if_pos h2] at hk ⊢
      by_cases h3 : m sort.toNat = 2
      · rw [if_pos h3] at hk
        exact absurd rfl hk
      · rw [if_neg h3]
        omega
    · rw [if_neg h2] at hk ⊢
      by_cases h3 : 0 ≤ at_ ∧ at_ < m sort.toNat
      · rw [if_pos h3]
        omega
      · rw [if_neg h3] at hk
        exact absurd rfl hk
  · rw [if_neg h1] at hk
    exact absurd rfl hk
/-- of pointers all cells of a kept one are known -/
theorem cF_k {P : Nat → Nat → Prop} (H : ∀ p ∈ cPL, P p.1 p.2.1) {a j : Nat} (w : cF a j = true) : P a j := by
  obtain ⟨p, hp, e⟩ := List.any_eq_true.mp w
  have e1 : p.1 = a ∧ p.2.1 = j := by simpa using e
  have := H p hp
  rw [e1.1, e1.2] at this
  exact this
/-- what keep() leaves -/
theorem keepC_e {n of k : Nat} {t : Nat → Int} {h : yH} (hof : of ≤ 2) (hk : k < 2) (hP : cP h) (hr : cR of t h) (hW : tWf of t) (hm : 0 ≤ h 6 of ∧ h 6 of ≤ 2) : ∃ h2, f_X9_keep n [3, 80, (of : Int), (k : Int)] h = some (0, h2) ∧ h2 6 of = max (h 6 of) ((k : Int) + 1) ∧ cO of k t h2 ∧ cP h2 ∧ ∀ a j, ¬ (a = 6 ∧ j = of) → ¬ (20 + 20 * of + 10 * k ≤ a ∧ a ≤ 27 + 20 * of + 10 * k) → h2 a j = h a j := by
  rcases (show of = 0 ∨ of = 1 ∨ of = 2 by omega) with rfl | rfl | rfl
  · rcases (show k = 0 ∨ k = 1 by omega) with rfl | rfl
    · obtain ⟨h2, a1, a2, a3, a4⟩ := keep_00 (n := n) hP (hr.1 rfl) (hW.1 rfl) hm
      refine ⟨h2, a1, a2, ⟨fun _ => a3, fun e => absurd e (by decide), fun e => absurd e (by decide)⟩, hP.fr (fun a j w => a4 a j (fun e => by rw [e.1, e.2] at w; exact absurd w (by decide)) ?_), fun a j w1 w2 => a4 a j w1 (Or.inl (by omega))⟩
      exact cF_k (P := fun a j => ¬ (20 ≤ a ∧ a ≤ 27) ∨ (a = 20 ∧ (j = 5 ∨ j = 7 ∨ j = 8 ∨ j = 9 ∨ j = 11 ∨ j = 12 ∨ j = 13))) (by decide +kernel) w
    · obtain ⟨h2, a1, a2, a3, a4⟩ := keep_01 (n := n) hP (hr.1 rfl) (hW.1 rfl) hm
      refine ⟨h2, a1, a2, ⟨fun _ => a3, fun e => absurd e (by decide), fun e => absurd e (by decide)⟩, hP.fr (fun a j w => a4 a j (fun e => by rw [e.1, e.2] at w; exact absurd w (by decide)) ?_), fun a j w1 w2 => a4 a j w1 (Or.inl (by omega))⟩
      exact cF_k (P := fun a j => ¬ (30 ≤ a ∧ a ≤ 37) ∨ (a = 30 ∧ (j = 5 ∨ j = 7 ∨ j = 8 ∨ j = 9 ∨ j = 11 ∨ j = 12 ∨ j = 13))) (by decide +kernel) w
  · rcases (show k = 0 ∨ k = 1 by omega) with rfl | rfl
    · obtain ⟨h2, a1, a2, a3, a4⟩ := keep_10 (n := n) hP (hr.2.1 rfl) (hW.2.1 rfl) hm
      refine ⟨h2, a1, a2, ⟨fun e => absurd e (by decide), fun _ => a3, fun e => absurd e (by decide)⟩, hP.fr (fun a j w => a4 a j (fun e => by rw [e.1, e.2] at w; exact absurd w (by decide)) ?_), fun a j w1 w2 => a4 a j w1 (Or.inl (by omega))⟩
      exact cF_k (P := fun a j => ¬ (40 ≤ a ∧ a ≤ 47) ∨ (a = 40 ∧ (j = 1 ∨ j = 2))) (by decide +kernel) w
    · obtain ⟨h2, a1, a2, a3, a4⟩ := keep_11 (n := n) hP (hr.2.1 rfl) (hW.2.1 rfl) hm
      refine ⟨h2, a1, a2, ⟨fun e => absurd e (by decide), fun _ => a3, fun e => absurd e (by decide)⟩, hP.fr (fun a j w => a4 a j (fun e => by rw [e.1, e.2] at w; exact absurd w (by decide)) ?_), fun a j w1 w2 => a4 a j w1 (Or.inl (by omega))⟩
      exact cF_k (P := fun a j => ¬ (50 ≤ a ∧ a ≤ 57) ∨ (a = 50 ∧ (j = 1 ∨ j = 2))) (by decide +kernel) w
  · rcases (show k = 0 ∨ k = 1 by omega) with rfl | rfl
    · obtain ⟨h2, a1, a2, a3, a4⟩ := keep_20 (n := n) hP (hr.2.2 rfl) (hW.2.2 rfl) hm
      refine ⟨h2, a1, a2, ⟨fun e => absurd e (by decide), fun e => absurd e (by decide), fun _ => a3⟩, hP.fr (fun a j w => a4 a j (fun e => by rw [e.1, e.2] at w; exact absurd w (by decide)) ?_), fun a j w1 w2 => a4 a j w1 (Or.inl (by omega))⟩
      exact cF_k (P := fun a j => ¬ (60 ≤ a ∧ a ≤ 67) ∨ (a = 60 ∧ (j = 1 ∨ j = 2 ∨ j = 4 ∨ j = 5))) (by decide +kernel) w
    · obtain ⟨h2, a1, a2, a3, a4⟩ := keep_21 (n := n) hP (hr.2.2 rfl) (hW.2.2 rfl) hm
      refine ⟨h2, a1, a2, ⟨fun e => absurd e (by decide), fun e => absurd e (by decide), fun _ => a3⟩, hP.fr (fun a j w => a4 a j (fun e => by rw [e.1, e.2] at w; exact absurd w (by decide)) ?_), fun a j w1 w2 => a4 a j w1 (Or.inl (by omega))⟩
      exact cF_k (P := fun a j => ¬ (70 ≤ a ∧ a ≤ 77) ∨ (a = 70 ∧ (j = 1 ∨ j = 2 ∨ j = 4 ∨ j = 5))) (by decide +kernel) w
/-- what text() leaves -/
def cxR (sort at_ : Int) (h : yH) (R : (Int × Int) × (Nat → Int)) (v : Int) (h2 : yH) : Prop :=
  cP h2 ∧ h2 4 1 = 0 ∧ (∀ a j, ¬ (a = 4 ∧ j = 1) → ¬ (a = 3 ∧ (j = 5 ∨ j = 6)) → ¬ (6 ≤ a ∧ a ≤ 121) → h2 a j = h a j) ∧
  ((txK (h 6) sort at_ = -2 ∧ v = -2 ∧ h2 3 5 = 0 ∧ h2 3 6 = -1 ∧ ∀ a j, 6 ≤ a ∧ a ≤ 79 → h2 a j = h a j) ∨
   (txK (h 6) sort at_ ≠ -2 ∧ h2 3 5 = R.1.1 ∧ h2 3 6 = R.1.2 ∧ ((R.1.1 ≠ 0 ∧ v = -1 ∧ ∀ a j, 6 ≤ a ∧ a ≤ 79 → h2 a j = h a j) ∨
    (R.1.1 = 0 ∧ v = txK (h 6) sort at_ ∧ tWf sort.toNat R.2 ∧ cO sort.toNat v.toNat R.2 h2 ∧ h2 6 sort.toNat = max (h 6 sort.toNat) (v + 1) ∧ ∀ a j, 6 ≤ a ∧ a ≤ 79 → ¬ (a = 6 ∧ j = sort.toNat) → ¬ (20 + 20 * sort.toNat + 10 * v.toNat ≤ a ∧ a ≤ 27 + 20 * sort.toNat + 10 * v.toNat) → h2 a j = h a j))))
theorem textC_e {u : Nat → Int} {N n : Nat} {sort at_ : Int} {t0 : Nat → Int} {h : yH} (hn : 2800 ≤ n) (hc : cC u N h) (hm : ∀ j, j < 3 → 0 ≤ h 6 j ∧ h 6 j ≤ 2) (ht : ∀ j, j < 121 → t0 j = tI sort.toNat j) : ∃ v h2, f_X11_text n [1, sort, at_] h = some (v, h2) ∧ cxR sort at_ h (pRd u N sort.toNat 700 0 (0, -1) t0 (-1) (-1)) v h2 := by
  have hP := hc.2.2.2
  rw [e_X11_text, xg_pos (hP.p (by decide)), numberFor_e hP hm, xb_some]
  by_cases hk : txK (h 6) sort at_ = -2
  · rw [if_pos hk, xg_pos (hP.p (by decide)), e_X9_takeTape, xg_pos (hP.p (by decide)), xb_some]
    refine ⟨_, _, rfl, ((hP.up (by decide)).up (by decide)).up (by decide), by rw [zup_ne (by omega), zup_ne (by omega), zup_at], fun a j w1 w2 w3 => by rw [zup_ne (by omega), zup_ne (by omega), zup_ne (by omega)], Or.inl ⟨hk, rfl, by rw [zup_ne (by omega), zup_at], by rw [zup_at], fun a j w => by rw [zup_ne (by omega), zup_ne (by omega), zup_ne (by omega)]⟩⟩
  · obtain ⟨hs, hk0, hk2⟩ := txK_b hm hk
    obtain ⟨of, rfl⟩ : ∃ of : Nat, sort = (of : Int) := ⟨sort.toNat, by omega⟩
    rw [Int.toNat_natCast] at ht ⊢
    have hof : of ≤ 2 := by omega
    obtain ⟨k, ek⟩ : ∃ k : Nat, txK (h 6) (of : Int) at_ = (k : Int) := ⟨(txK (h 6) (of : Int) at_).toNat, by omega⟩
    obtain ⟨g, r1, r2, r3, r4⟩ := read_e (n := n) hof hn hc ht
    rw [if_neg hk, xg_pos (hP.p (by decide)), xg_pos (hP.p (by decide)), xg_pos (hP.p (by decide)), r1, xb_some]
    generalize pRd u N of 700 0 (0, -1) t0 (-1) (-1) = R at r4 ⊢
    have gP := r2.2.2.2
    obtain ⟨q3, q4, t2, er, ew, et⟩ := r4
    rw [xg_pos (gP.p (by decide)), xg_pos (gP.p (by decide)), xg_pos (gP.p (by decide)), e_X9_takeTape, xg_pos (gP.p (by decide)), xb_some, q3, q4]
    have lP : cP (zup (zup (zup g 4 1 0) 3 5 R.1.1) 3 6 R.1.2) := ((gP.up (by decide)).up (by decide)).up (by decide)
    have l41 : (zup (zup (zup g 4 1 0) 3 5 R.1.1) 3 6 R.1.2) 4 1 = 0 := by rw [zup_ne (by omega), zup_ne (by omega), zup_at]
    have l35 : (zup (zup (zup g 4 1 0) 3 5 R.1.1) 3 6 R.1.2) 3 5 = R.1.1 := by rw [zup_ne (by omega), zup_at]
    have l36 : (zup (zup (zup g 4 1 0) 3 5 R.1.1) 3 6 R.1.2) 3 6 = R.1.2 := by rw [zup_at]
    have ln : ∀ a j, ¬ (a = 4 ∧ j = 1) → ¬ (a = 3 ∧ (j = 5 ∨ j = 6)) → (zup (zup (zup g 4 1 0) 3 5 R.1.1) 3 6 R.1.2) a j = g a j := fun a j w1 w2 => by rw [zup_ne (by omega), zup_ne (by omega), zup_ne (by omega)]
    generalize zup (zup (zup g 4 1 0) 3 5 R.1.1) 3 6 R.1.2 = l at *
    rw [xg_pos (lP.p (by decide)), ln 80 3 (by omega) (by omega), q3]
    have lh : ∀ a j, ¬ (a = 4 ∧ j = 1) → ¬ (a = 3 ∧ (j = 5 ∨ j = 6)) → ¬ (80 ≤ a ∧ a ≤ 121) → l a j = h a j := fun a j w1 w2 w3 => by rw [ln a j w1 w2]; exact r3 a j w3
    by_cases hz : R.1.1 = 0
    · have l6 : l 6 of = h 6 of := lh 6 of (by omega) (by omega) (by omega)
      have ett := et hz
      subst ett
      obtain ⟨h2, s1, s2, s3, s4, s5⟩ := keepC_e (n := n) (k := k) hof (by omega) lP (er.fr (fun a j w1 w2 => ln a j (by omega) (by omega))) ew (by rw [l6]; exact hm of (by omega))
      rw [if_pos hz, xg_pos (lP.p (by decide)), xg_pos (lP.p (by decide)), ek, s1, xb_some]
      refine ⟨_, h2, rfl, s4, by rw [s5 4 1 (by omega) (by omega)]; exact l41, fun a j w1 w2 w3 => by rw [s5 a j (by omega) (by omega)]; exact lh a j w1 w2 (by omega), Or.inr ⟨hk, by rw [s5 3 5 (by omega) (by omega)]; exact l35, by rw [s5 3 6 (by omega) (by omega)]; exact l36, Or.inr ⟨hz, ek.symm, by rw [Int.toNat_natCast]; exact ew, by rw [Int.toNat_natCast, Int.toNat_natCast]; exact s3, by rw [Int.toNat_natCast, s2, l6], fun a j w1 w2 w3 => ?_⟩⟩⟩
      rw [Int.toNat_natCast] at w2 w3
      rw [Int.toNat_natCast] at w3
      rw [s5 a j w2 w3]
      exact lh a j (by omega) (by omega) (by omega)
    · rw [if_neg hz]
      exact ⟨_, l, rfl, lP, l41, fun a j w1 w2 w3 => lh a j w1 w2 (by omega), Or.inr ⟨hk, l35, l36, Or.inl ⟨hz, rfl, fun a j w => lh a j (by omega) (by omega) (by omega)⟩⟩⟩
end
section
/-! the class as functions: the tape, count, fault -/
set_option maxRecDepth 100000 in
theorem yq_X8_put : tables_1_3[23]? = some (.code yX8_put cX8_put 3 none) := rfl
theorem yw_X8_put : zMV yX8_put cX8_put 3 none 1 := ⟨⟨zTi_1 3 (by decide +kernel) rfl, zTi_3 23 yq_X8_put rfl, ⟨by decide, by decide⟩, by decide +kernel⟩, zTi_3 21 (by decide +kernel) rfl, zTi_3 22 (by decide +kernel) rfl⟩
theorem yt_X8_put_3 : decode cX8_put 3 = .ok (.iload_n 2, 1) := by decide +kernel
theorem yt_X8_put_4 : decode cX8_put 4 = .ok (.ifCond .lt 42, 3) := by decide +kernel
theorem yt_X8_put_46 : decode cX8_put 46 = .ok (.return_, 1) := by decide +kernel
theorem yt_X8_put_7 : decode cX8_put 7 = .ok (.aload_n 0, 1) := by decide +kernel
theorem yt_X8_put_8 : decode cX8_put 8 = .ok (.getfield 15, 3) := by decide +kernel
theorem yt_X8_put_11 : decode cX8_put 11 = .ok (.sipush 600, 3) := by decide +kernel
theorem yt_X8_put_14 : decode cX8_put 14 = .ok (.if_icmp .ge 26, 3) := by decide +kernel
theorem yt_X8_put_40 : decode cX8_put 40 = .ok (.iinc 2 (-8), 3) := by decide +kernel
theorem yt_X8_put_43 : decode cX8_put 43 = .ok (.goto (-40), 3) := by decide +kernel
theorem yt_X8_put_17 : decode cX8_put 17 = .ok (.aload_n 0, 1) := by decide +kernel
theorem yt_X8_put_18 : decode cX8_put 18 = .ok (.getfield 9, 3) := by decide +kernel
theorem yt_X8_put_21 : decode cX8_put 21 = .ok (.aload_n 0, 1) := by decide +kernel
theorem yt_X8_put_22 : decode cX8_put 22 = .ok (.getfield 15, 3) := by decide +kernel
theorem yt_X8_put_25 : decode cX8_put 25 = .ok (.iload_n 1, 1) := by decide +kernel
theorem yt_X8_put_26 : decode cX8_put 26 = .ok (.iload_n 2, 1) := by decide +kernel
theorem yt_X8_put_27 : decode cX8_put 27 = .ok (.iushr, 1) := by decide +kernel
theorem yt_X8_put_28 : decode cX8_put 28 = .ok (.i2b, 1) := by decide +kernel
theorem yt_X8_put_29 : decode cX8_put 29 = .ok (.bastore, 1) := by decide +kernel
theorem yt_X8_put_30 : decode cX8_put 30 = .ok (.aload_n 0, 1) := by decide +kernel
theorem yt_X8_put_31 : decode cX8_put 31 = .ok (.dup, 1) := by decide +kernel
theorem yt_X8_put_32 : decode cX8_put 32 = .ok (.getfield 15, 3) := by decide +kernel
theorem yt_X8_put_35 : decode cX8_put 35 = .ok (.iconst 1, 1) := by decide +kernel
theorem yt_X8_put_36 : decode cX8_put 36 = .ok (.iadd, 1) := by decide +kernel
theorem yt_X8_put_37 : decode cX8_put 37 = .ok (.putfield 15, 3) := by decide +kernel
def xq_X8_put_3 (n : Nat) (K : Nat → yK) : yK := xE [(0, 100003), (1, 0), (2, 0)] [] (xLd 2 0 (xLt0 xRv (xLd 0 100003 (xGet 1 1 0 (xCst 0 600 (xLt (xLd 0 100003 (xGetO 1 0 0 1 (xLd 0 100003 (xGet 1 1 0 (xLd 1 0 (xLd 2 0 (xUshr (xI2b (xAst 0 600 (fun _ => (-128)) (fun _ => 127) (xLd 0 100003 (xDup (xGet 1 1 0 (xCst 0 1 (xAdd (xPut 1 1 0 600 (xInc 2 (-8) (xJ [(0, 100003), (1, 0), (2, 0)] [] (K 3)))))))))))))))))) (xInc 2 (-8) (xJ [(0, 100003), (1, 0), (2, 0)] [] (K 3)))))))))
theorem s_X8_put_3 {η : zRn} {D : va_G} {cy : Nat → ClassId} {L : List Nat} {Θ : Nat → Option Nat} {p : Program} {l : Launch} {e : Env} {R : Room} {s : State} {m : MethodId} {args : Array Value} {below : List Frame} {meth : Method} {c : Code} {Q : State → Prop} {Qr : yQt} {n : Nat} {K : Nat → yK} (Z : yCz η zkds D vwCl cy L Θ 3 p l e R s m args below meth c Q cX8_put (tyW cy) RX8 zTW zKP tyW none 0 0 Qr) (hI3 : yGo η zkds D vwCl cy L Θ 3 p l e R s m args below meth c Q 3 (xw Qr 0 (xJ [(0, 100003), (1, 0), (2, 0)] [] (K 3)))) : yGo η zkds D vwCl cy L Θ 3 p l e R s m args below meth c Q 3 (xw Qr 0 (xJ [(0, 100003), (1, 0), (2, 0)] [] (xq_X8_put_3 n K))) := xr_E (yr_mono x_ld (yr_iload_n Z.1 rfl yt_X8_put_3 (yr_mono x_lt0 (yr_lt0 Z.1 yt_X8_put_4 (by decide) (yr_mono x_rv (yr_rv Z rfl yt_X8_put_46)) (yr_mono x_ld (yr_aload_n Z.1 rfl (by decide) yt_X8_put_7 (yr_mono x_get (yr_get (lo := 0) (hi := 600) Z.1 yf_RX8_15 (by decide +kernel) yt_X8_put_8 (yr_mono x_cst (yr_sipush Z.1 yt_X8_put_11 (by decide) (yr_mono x_lt (yr_ge Z.1 yt_X8_put_14 (by decide) (yr_mono x_inc (yr_inc Z.1 (by decide) (by decide) yt_X8_put_40 (yr_goto Z.1 yt_X8_put_43 (by decide) hI3))) (yr_mono x_ld (yr_aload_n Z.1 rfl (by decide) yt_X8_put_17 (yr_mono x_geto (yr_getP (lo := 0) (hi := 2147483647) Z.1 yf_RX8_9 (by decide +kernel) yt_X8_put_18 (yr_mono x_ld (yr_aload_n Z.1 rfl (by decide) yt_X8_put_21 (yr_mono x_get (yr_get (lo := 0) (hi := 600) Z.1 yf_RX8_15 (by decide +kernel) yt_X8_put_22 (yr_mono x_ld (yr_iload_n Z.1 rfl yt_X8_put_25 (yr_mono x_ld (yr_iload_n Z.1 rfl yt_X8_put_26 (yr_mono x_ushr (yr_ushr Z.1 yt_X8_put_27 (yr_mono x_i2b (yr_i2b Z.1 yt_X8_put_28 (yr_mono x_ast (yr_bast (lo := (-128)) (hi := 127) Z.1 (by decide +kernel) yt_X8_put_29 (yr_mono x_ld (yr_aload_n Z.1 rfl (by decide) yt_X8_put_30 (yr_mono x_dup (yr_dup Z.1 yt_X8_put_31 (yr_mono x_get (yr_get (lo := 0) (hi := 600) Z.1 yf_RX8_15 (by decide +kernel) yt_X8_put_32 (yr_mono x_cst (yr_iconst Z.1 yt_X8_put_35 (by decide) (yr_mono x_add (yr_add Z.1 yt_X8_put_36 (yr_mono x_put (yr_put Z.1 yf_RX8_15 (by decide +kernel) (by decide) yt_X8_put_37 (yr_mono x_inc (yr_inc Z.1 (by decide) (by decide) yt_X8_put_40 (yr_goto Z.1 yt_X8_put_43 (by decide) hI3)))))))))))))))))))))))))))))))))))))))))))))
def xl_X8_put : Nat → Nat → yK
  | 0, _ => fun _ _ => none
  | n + 1, pc => (cond (Nat.beq pc 3) (xq_X8_put_3 n (xl_X8_put n)) (fun _ _ => none))
theorem l_X8_put {η : zRn} {D : va_G} {cy : Nat → ClassId} {L : List Nat} {Θ : Nat → Option Nat} {p : Program} {l : Launch} {e : Env} {R : Room} {s : State} {m : MethodId} {args : Array Value} {below : List Frame} {meth : Method} {c : Code} {Q : State → Prop} {Qr : yQt} (Z : yCz η zkds D vwCl cy L Θ 3 p l e R s m args below meth c Q cX8_put (tyW cy) RX8 zTW zKP tyW none 0 0 Qr) : ∀ n, yGo η zkds D vwCl cy L Θ 3 p l e R s m args below meth c Q 3 (xw Qr 0 (xJ [(0, 100003), (1, 0), (2, 0)] [] (xl_X8_put n 3))) := fun n => by
  induction n with
  | zero => exact xr_J0
  | succ n ih => exact s_X8_put_3 (n := n) (K := xl_X8_put n) Z ih
theorem yt_X8_put_0 : decode cX8_put 0 = .ok (.bipush 24, 2) := by decide +kernel
theorem yt_X8_put_2 : decode cX8_put 2 = .ok (.istore_n 2, 1) := by decide +kernel
def xp_X8_put (n : Nat) (K : Nat → yK) : yX := (xCst 0 24 (xSt 2 0 (xJ [(0, 100003), (1, 0), (2, 0)] [] (K 3))))
theorem s_X8_put {η : zRn} {D : va_G} {cy : Nat → ClassId} {L : List Nat} {Θ : Nat → Option Nat} {p : Program} {l : Launch} {e : Env} {R : Room} {s : State} {m : MethodId} {args : Array Value} {below : List Frame} {meth : Method} {c : Code} {Q : State → Prop} {Qr : yQt} {n : Nat} {K : Nat → yK} (Z : yCz η zkds D vwCl cy L Θ 3 p l e R s m args below meth c Q cX8_put (tyW cy) RX8 zTW zKP tyW none 0 0 Qr) (hI3 : yGo η zkds D vwCl cy L Θ 3 p l e R s m args below meth c Q 3 (xw Qr 0 (xJ [(0, 100003), (1, 0), (2, 0)] [] (K 3)))) : yGo η zkds D vwCl cy L Θ 3 p l e R s m args below meth c Q 0 (xw Qr 0 (xp_X8_put n K)) := (yr_mono x_cst (yr_bipush Z.1 yt_X8_put_0 (by decide) (yr_mono x_st (yr_istore_n Z.1 rfl (by decide) yt_X8_put_2 hI3))))
def f_X8_put : yFn := fun n ys h => (fun n => xp_X8_put n (xl_X8_put n)) n (yar 0 ([100003, 0].zip ys)) [] h
theorem m_X8_put (l : Launch) : yMet zkds vwCl zTW zKP l (yX8_put, cX8_put, 3, none) 0 0 [100003, 0] (yF 0 f_X8_put) := y_metF zkp_ok zTW_good (yX8_put, cX8_put, 3, none) 0 0 [100003, 0] 0 (fun n => xp_X8_put n (xl_X8_put n)) (by decide +kernel) (by decide) (fun η D cy L Θ p e R s m args below meth c Q Qr n Z => s_X8_put (n := n) (K := xl_X8_put n) Z (l_X8_put Z n))
set_option maxRecDepth 100000 in
theorem e_X8_put_3 {n : Nat} {x1 x2 : Int} {h : yH} : xl_X8_put (n + 1) 3 [4, x1, x2] h = if x2 < 0 then (some (0, h)) else (if (h 4 1) < 600 then (xg (h 4 0 = 5) (xg (0 ≤ (h 4 1) ∧ (h 4 1) < 600) (xg ((-128) ≤ (yi2b (yushr x1 x2)) ∧ (yi2b (yushr x1 x2)) ≤ 127) (xg (-2147483648 ≤ (h 4 1) + 1 ∧ (h 4 1) + 1 ≤ 2147483647) (xg (0 ≤ ((h 4 1) + 1) ∧ ((h 4 1) + 1) ≤ 600) (xg (-2147483648 ≤ x2 + (-8) ∧ x2 + (-8) ≤ 2147483647) (xl_X8_put n 3 [4, x1, (x2 + (-8))] (zup (zup h 5 (h 4 1).toNat (yi2b (yushr x1 x2))) 4 1 ((h 4 1) + 1))))))))) else (xg (-2147483648 ≤ x2 + (-8) ∧ x2 + (-8) ≤ 2147483647) (xl_X8_put n 3 [4, x1, (x2 + (-8))] h))) := by rfl
set_option maxRecDepth 100000 in
theorem e_X8_put {n : Nat} {x1 : Int} {h : yH} : f_X8_put n [4, x1] h = xl_X8_put n 3 [4, x1, 24] h := by rfl
set_option maxRecDepth 100000 in
theorem yq_X11_feed : tables_1_3[19]? = some (.code yX11_feed cX11_feed 7 (some .int)) := rfl
theorem yw_X11_feed : zMV yX11_feed cX11_feed 7 (some .int) 5 := ⟨⟨zTi_1 1 (by decide +kernel) rfl, zTi_3 19 yq_X11_feed rfl, ⟨by decide, by decide⟩, by decide +kernel⟩, zTi_3 17 (by decide +kernel) rfl, zTi_3 18 (by decide +kernel) rfl⟩
theorem yt_X11_feed_0 : decode cX11_feed 0 = .ok (.aload_n 0, 1) := by decide +kernel
theorem yt_X11_feed_1 : decode cX11_feed 1 = .ok (.getfield 10, 3) := by decide +kernel
theorem yt_X11_feed_4 : decode cX11_feed 4 = .ok (.getfield 55, 3) := by decide +kernel
theorem yt_X11_feed_7 : decode cX11_feed 7 = .ok (.astore 6, 2) := by decide +kernel
theorem yt_X11_feed_9 : decode cX11_feed 9 = .ok (.aload 6, 2) := by decide +kernel
theorem yt_X11_feed_11 : decode cX11_feed 11 = .ok (.getfield 59, 3) := by decide +kernel
theorem yf_RX11_59 : zFok RX11 zTW vwCl (59, 8, 1, (some .int)) := ⟨RX8, TX8, 2, rfl, zx_8, by decide, zTi_1 44 (by decide +kernel) rfl, fun ty h => ⟨rfl, tyX8, tyX8_ok, nmX8, by cases h; rfl⟩⟩
theorem yt_X11_feed_14 : decode cX11_feed 14 = .ok (.bipush 20, 2) := by decide +kernel
theorem yt_X11_feed_16 : decode cX11_feed 16 = .ok (.iadd, 1) := by decide +kernel
theorem yt_X11_feed_17 : decode cX11_feed 17 = .ok (.sipush 600, 3) := by decide +kernel
theorem yt_X11_feed_20 : decode cX11_feed 20 = .ok (.if_icmp .le 5, 3) := by decide +kernel
theorem yt_X11_feed_25 : decode cX11_feed 25 = .ok (.aload 6, 2) := by decide +kernel
theorem yt_X11_feed_27 : decode cX11_feed 27 = .ok (.iload_n 1, 1) := by decide +kernel
theorem yt_X11_feed_28 : decode cX11_feed 28 = .ok (.invokevirtual 65, 3) := by decide +kernel
theorem yl_RX11_65 : Cond.methodLink RX11 65 yX8_put ∈ zTW := zTi_3 20 (by decide +kernel) rfl
theorem yt_X11_feed_31 : decode cX11_feed 31 = .ok (.aload 6, 2) := by decide +kernel
theorem yt_X11_feed_33 : decode cX11_feed 33 = .ok (.iload_n 2, 1) := by decide +kernel
theorem yt_X11_feed_34 : decode cX11_feed 34 = .ok (.invokevirtual 65, 3) := by decide +kernel
theorem yt_X11_feed_37 : decode cX11_feed 37 = .ok (.aload 6, 2) := by decide +kernel
theorem yt_X11_feed_39 : decode cX11_feed 39 = .ok (.iload_n 3, 1) := by decide +kernel
theorem yt_X11_feed_40 : decode cX11_feed 40 = .ok (.invokevirtual 65, 3) := by decide +kernel
theorem yt_X11_feed_43 : decode cX11_feed 43 = .ok (.aload 6, 2) := by decide +kernel
theorem yt_X11_feed_45 : decode cX11_feed 45 = .ok (.iload 4, 2) := by decide +kernel
theorem yt_X11_feed_47 : decode cX11_feed 47 = .ok (.invokevirtual 65, 3) := by decide +kernel
theorem yt_X11_feed_50 : decode cX11_feed 50 = .ok (.aload 6, 2) := by decide +kernel
theorem yt_X11_feed_52 : decode cX11_feed 52 = .ok (.iload 5, 2) := by decide +kernel
theorem yt_X11_feed_54 : decode cX11_feed 54 = .ok (.invokevirtual 65, 3) := by decide +kernel
theorem yt_X11_feed_57 : decode cX11_feed 57 = .ok (.aload 6, 2) := by decide +kernel
theorem yt_X11_feed_59 : decode cX11_feed 59 = .ok (.getfield 59, 3) := by decide +kernel
theorem yt_X11_feed_62 : decode cX11_feed 62 = .ok (.ireturn, 1) := by decide +kernel
theorem yt_X11_feed_23 : decode cX11_feed 23 = .ok (.iconst (-1), 1) := by decide +kernel
theorem yt_X11_feed_24 : decode cX11_feed 24 = .ok (.ireturn, 1) := by decide +kernel
def xp_X11_feed (n : Nat) : yX := (xLd 0 100065 (xGetO 63 0 28 2 (xGetO 28 0 1 1 (xSt 6 100003 (xLd 6 100003 (xGet 1 1 0 (xCst 0 20 (xAdd (xCst 0 600 (xGt (xCst 0 (-1) xRi) (xLd 6 100003 (xLd 1 0 (xCalV 2 [100003, 0] (f_X8_put n) (xLd 6 100003 (xLd 2 0 (xCalV 2 [100003, 0] (f_X8_put n) (xLd 6 100003 (xLd 3 0 (xCalV 2 [100003, 0] (f_X8_put n) (xLd 6 100003 (xLd 4 0 (xCalV 2 [100003, 0] (f_X8_put n) (xLd 6 100003 (xLd 5 0 (xCalV 2 [100003, 0] (f_X8_put n) (xLd 6 100003 (xGet 1 1 0 xRi)))))))))))))))))))))))))))
theorem s_X11_feed {η : zRn} {D : va_G} {cy : Nat → ClassId} {L : List Nat} {Θ : Nat → Option Nat} {p : Program} {l : Launch} {e : Env} {R : Room} {s : State} {m : MethodId} {args : Array Value} {below : List Frame} {meth : Method} {c : Code} {Q : State → Prop} {Qr : yQt} {n : Nat} (Z : yCz η zkds D vwCl cy L Θ 7 p l e R s m args below meth c Q cX11_feed (tyW cy) RX11 zTW zKP tyW (some .int) 1 22 Qr) : yGo η zkds D vwCl cy L Θ 7 p l e R s m args below meth c Q 0 (xw Qr 0 (xp_X11_feed n)) := (yr_mono x_ld (yr_aload_n Z.1 rfl (by decide) yt_X11_feed_0 (yr_mono x_geto (yr_getP (lo := 0) (hi := 2147483647) Z.1 yf_RX11_10 (by decide +kernel) yt_X11_feed_1 (yr_mono x_geto (yr_getP (lo := 0) (hi := 2147483647) Z.1 yf_RX11_55 (by decide +kernel) yt_X11_feed_4 (yr_mono x_st (yr_astore Z.1 (by decide) (by decide) yt_X11_feed_7 (yr_mono x_ld (yr_aload Z.1 (by decide) yt_X11_feed_9 (yr_mono x_get (yr_get (lo := 0) (hi := 600) Z.1 yf_RX11_59 (by decide +kernel) yt_X11_feed_11 (yr_mono x_cst (yr_bipush Z.1 yt_X11_feed_14 (by decide) (yr_mono x_add (yr_add Z.1 yt_X11_feed_16 (yr_mono x_cst (yr_sipush Z.1 yt_X11_feed_17 (by decide) (yr_mono x_gt (yr_le Z.1 yt_X11_feed_20 (by decide) (yr_mono x_ld (yr_aload Z.1 (by decide) yt_X11_feed_25 (yr_mono x_ld (yr_iload_n Z.1 rfl yt_X11_feed_27 (yr_mono x_calV (yr_calV rfl (y_hrunV Z (y := (yX8_put, cX8_put, 3, none)) (m_X8_put l) (ycv_of yw_X8_put 65 yt_X11_feed_28 yl_RX11_65 rfl (by decide) (by decide) ⟨1, _, _, _, _, rfl, zkd_1, rfl, rfl⟩)) (yr_mono x_ld (yr_aload Z.1 (by decide) yt_X11_feed_31 (yr_mono x_ld (yr_iload_n Z.1 rfl yt_X11_feed_33 (yr_mono x_calV (yr_calV rfl (y_hrunV Z (y := (yX8_put, cX8_put, 3, none)) (m_X8_put l) (ycv_of yw_X8_put 65 yt_X11_feed_34 yl_RX11_65 rfl (by decide) (by decide) ⟨1, _, _, _, _, rfl, zkd_1, rfl, rfl⟩)) (yr_mono x_ld (yr_aload Z.1 (by decide) yt_X11_feed_37 (yr_mono x_ld (yr_iload_n Z.1 rfl yt_X11_feed_39 (yr_mono x_calV (yr_calV rfl (y_hrunV Z (y := (yX8_put, cX8_put, 3, none)) (m_X8_put l) (ycv_of yw_X8_put 65 yt_X11_feed_40 yl_RX11_65 rfl (by decide) (by decide) ⟨1, _, _, _, _, rfl, zkd_1, rfl, rfl⟩)) (yr_mono x_ld (yr_aload Z.1 (by decide) yt_X11_feed_43 (yr_mono x_ld (yr_iload Z.1 yt_X11_feed_45 (yr_mono x_calV (yr_calV rfl (y_hrunV Z (y := (yX8_put, cX8_put, 3, none)) (m_X8_put l) (ycv_of yw_X8_put 65 yt_X11_feed_47 yl_RX11_65 rfl (by decide) (by decide) ⟨1, _, _, _, _, rfl, zkd_1, rfl, rfl⟩)) (yr_mono x_ld (yr_aload Z.1 (by decide) yt_X11_feed_50 (yr_mono x_ld (yr_iload Z.1 yt_X11_feed_52 (yr_mono x_calV (yr_calV rfl (y_hrunV Z (y := (yX8_put, cX8_put, 3, none)) (m_X8_put l) (ycv_of yw_X8_put 65 yt_X11_feed_54 yl_RX11_65 rfl (by decide) (by decide) ⟨1, _, _, _, _, rfl, zkd_1, rfl, rfl⟩)) (yr_mono x_ld (yr_aload Z.1 (by decide) yt_X11_feed_57 (yr_mono x_get (yr_get (lo := 0) (hi := 600) Z.1 yf_RX11_59 (by decide +kernel) yt_X11_feed_59 (yr_mono x_ri (yr_ri Z rfl yt_X11_feed_62)))))))))))))))))))))))))))))))))))) (yr_mono x_cst (yr_iconst Z.1 yt_X11_feed_23 (by decide) (yr_mono x_ri (yr_ri Z rfl yt_X11_feed_24))))))))))))))))))))))))
def f_X11_feed : yFn := fun n ys h => (fun n => xp_X11_feed n) n (yar 0 ([100065, 0, 0, 0, 0, 0].zip ys)) [] h
theorem m_X11_feed (l : Launch) : yMet zkds vwCl zTW zKP l (yX11_feed, cX11_feed, 7, (some .int)) 1 22 [100065, 0, 0, 0, 0, 0] (yF 0 f_X11_feed) := y_metF zkp_ok zTW_good (yX11_feed, cX11_feed, 7, (some .int)) 1 22 [100065, 0, 0, 0, 0, 0] 0 (fun n => xp_X11_feed n) (by decide +kernel) (by decide) (fun η D cy L Θ p e R s m args below meth c Q Qr n Z => s_X11_feed (n := n) Z)
set_option maxRecDepth 100000 in
theorem e_X11_feed {n : Nat} {x1 x2 x3 x4 x5 : Int} {h : yH} : f_X11_feed n [1, x1, x2, x3, x4, x5] h = xg (h 1 0 = 3) (xg (h 3 0 = 4) (xg (-2147483648 ≤ (h 4 1) + 20 ∧ (h 4 1) + 20 ≤ 2147483647) (if 600 < ((h 4 1) + 20) then (some ((-1), h)) else (xb (f_X8_put n [4, x1] h) (fun _ h1 => xb (f_X8_put n [4, x2] h1) (fun _ h2 => xb (f_X8_put n [4, x3] h2) (fun _ h3 => xb (f_X8_put n [4, x4] h3) (fun _ h4 => xb (f_X8_put n [4, x5] h4) (fun _ h5 => some ((h5 4 1), h5)))))))))) := by rfl
set_option maxRecDepth 100000 in
theorem yq_X11_end : tables_1_3[27]? = some (.code yX11_end cX11_end 2 (some .int)) := rfl
theorem yw_X11_end : zMV yX11_end cX11_end 2 (some .int) 1 := ⟨⟨zTi_1 1 (by decide +kernel) rfl, zTi_3 27 yq_X11_end rfl, ⟨by decide, by decide⟩, by decide +kernel⟩, zTi_3 25 (by decide +kernel) rfl, zTi_3 26 (by decide +kernel) rfl⟩
theorem yt_X11_end_0 : decode cX11_end 0 = .ok (.iload_n 1, 1) := by decide +kernel
theorem yt_X11_end_1 : decode cX11_end 1 = .ok (.ifCond .lt 17, 3) := by decide +kernel
theorem yt_X11_end_18 : decode cX11_end 18 = .ok (.iconst (-1), 1) := by decide +kernel
theorem yt_X11_end_19 : decode cX11_end 19 = .ok (.ireturn, 1) := by decide +kernel
theorem yt_X11_end_4 : decode cX11_end 4 = .ok (.iload_n 1, 1) := by decide +kernel
theorem yt_X11_end_5 : decode cX11_end 5 = .ok (.aload_n 0, 1) := by decide +kernel
theorem yt_X11_end_6 : decode cX11_end 6 = .ok (.getfield 10, 3) := by decide +kernel
theorem yt_X11_end_9 : decode cX11_end 9 = .ok (.getfield 55, 3) := by decide +kernel
theorem yt_X11_end_12 : decode cX11_end 12 = .ok (.getfield 59, 3) := by decide +kernel
theorem yt_X11_end_15 : decode cX11_end 15 = .ok (.if_icmp .le 5, 3) := by decide +kernel
theorem yt_X11_end_20 : decode cX11_end 20 = .ok (.aload_n 0, 1) := by decide +kernel
theorem yt_X11_end_21 : decode cX11_end 21 = .ok (.getfield 10, 3) := by decide +kernel
theorem yt_X11_end_24 : decode cX11_end 24 = .ok (.getfield 55, 3) := by decide +kernel
theorem yt_X11_end_27 : decode cX11_end 27 = .ok (.iload_n 1, 1) := by decide +kernel
theorem yt_X11_end_28 : decode cX11_end 28 = .ok (.putfield 59, 3) := by decide +kernel
theorem yt_X11_end_31 : decode cX11_end 31 = .ok (.iload_n 1, 1) := by decide +kernel
theorem yt_X11_end_32 : decode cX11_end 32 = .ok (.ireturn, 1) := by decide +kernel
def xp_X11_end (n : Nat) : yX := (xLd 1 0 (xLt0 (xCst 0 (-1) xRi) (xLd 1 0 (xLd 0 100065 (xGetO 63 0 28 2 (xGetO 28 0 1 1 (xGet 1 1 0 (xGt (xCst 0 (-1) xRi) (xLd 0 100065 (xGetO 63 0 28 2 (xGetO 28 0 1 1 (xLd 1 0 (xPut 1 1 0 600 (xLd 1 0 xRi))))))))))))))
theorem s_X11_end {η : zRn} {D : va_G} {cy : Nat → ClassId} {L : List Nat} {Θ : Nat → Option Nat} {p : Program} {l : Launch} {e : Env} {R : Room} {s : State} {m : MethodId} {args : Array Value} {below : List Frame} {meth : Method} {c : Code} {Q : State → Prop} {Qr : yQt} {n : Nat} (Z : yCz η zkds D vwCl cy L Θ 2 p l e R s m args below meth c Q cX11_end (tyW cy) RX11 zTW zKP tyW (some .int) 0 0 Qr) : yGo η zkds D vwCl cy L Θ 2 p l e R s m args below meth c Q 0 (xw Qr 0 (xp_X11_end n)) := (yr_mono x_ld (yr_iload_n Z.1 rfl yt_X11_end_0 (yr_mono x_lt0 (yr_lt0 Z.1 yt_X11_end_1 (by decide) (yr_mono x_cst (yr_iconst Z.1 yt_X11_end_18 (by decide) (yr_mono x_ri (yr_ri Z rfl yt_X11_end_19)))) (yr_mono x_ld (yr_iload_n Z.1 rfl yt_X11_end_4 (yr_mono x_ld (yr_aload_n Z.1 rfl (by decide) yt_X11_end_5 (yr_mono x_geto (yr_getP (lo := 0) (hi := 2147483647) Z.1 yf_RX11_10 (by decide +kernel) yt_X11_end_6 (yr_mono x_geto (yr_getP (lo := 0) (hi := 2147483647) Z.1 yf_RX11_55 (by decide +kernel) yt_X11_end_9 (yr_mono x_get (yr_get (lo := 0) (hi := 600) Z.1 yf_RX11_59 (by decide +kernel) yt_X11_end_12 (yr_mono x_gt (yr_le Z.1 yt_X11_end_15 (by decide) (yr_mono x_ld (yr_aload_n Z.1 rfl (by decide) yt_X11_end_20 (yr_mono x_geto (yr_getP (lo := 0) (hi := 2147483647) Z.1 yf_RX11_10 (by decide +kernel) yt_X11_end_21 (yr_mono x_geto (yr_getP (lo := 0) (hi := 2147483647) Z.1 yf_RX11_55 (by decide +kernel) yt_X11_end_24 (yr_mono x_ld (yr_iload_n Z.1 rfl yt_X11_end_27 (yr_mono x_put (yr_put Z.1 yf_RX11_59 (by decide +kernel) (by decide) yt_X11_end_28 (yr_mono x_ld (yr_iload_n Z.1 rfl yt_X11_end_31 (yr_mono x_ri (yr_ri Z rfl yt_X11_end_32)))))))))))))) (yr_mono x_cst (yr_iconst Z.1 yt_X11_end_18 (by decide) (yr_mono x_ri (yr_ri Z rfl yt_X11_end_19))))))))))))))))))))
def f_X11_end : yFn := fun n ys h => (fun n => xp_X11_end n) n (yar 0 ([100065, 0].zip ys)) [] h
theorem m_X11_end (l : Launch) : yMet zkds vwCl zTW zKP l (yX11_end, cX11_end, 2, (some .int)) 0 0 [100065, 0] (yF 0 f_X11_end) := y_metF zkp_ok zTW_good (yX11_end, cX11_end, 2, (some .int)) 0 0 [100065, 0] 0 (fun n => xp_X11_end n) (by decide +kernel) (by decide) (fun η D cy L Θ p e R s m args below meth c Q Qr n Z => s_X11_end (n := n) Z)
set_option maxRecDepth 100000 in
theorem e_X11_end {n : Nat} {x1 : Int} {h : yH} : f_X11_end n [1, x1] h = if x1 < 0 then (some ((-1), h)) else (xg (h 1 0 = 3) (xg (h 3 0 = 4) (if (h 4 1) < x1 then (some ((-1), h)) else (xg (h 1 0 = 3) (xg (h 3 0 = 4) (xg (0 ≤ x1 ∧ x1 ≤ 600) (some (x1, zup h 4 1 x1)))))))) := by rfl
set_option maxRecDepth 100000 in
theorem yq_X11_count : tables_1_5[214]? = some (.code yX11_count cX11_count 2 (some .int)) := rfl
theorem yw_X11_count : zMV yX11_count cX11_count 2 (some .int) 1 := ⟨⟨zTi_1 1 (by decide +kernel) rfl, zTi_5 214 yq_X11_count rfl, ⟨by decide, by decide⟩, by decide +kernel⟩, zTi_5 212 (by decide +kernel) rfl, zTi_5 213 (by decide +kernel) rfl⟩
theorem yt_X11_count_0 : decode cX11_count 0 = .ok (.iload_n 1, 1) := by decide +kernel
theorem yt_X11_count_1 : decode cX11_count 1 = .ok (.ifCond .lt 8, 3) := by decide +kernel
theorem yt_X11_count_9 : decode cX11_count 9 = .ok (.bipush (-2), 2) := by decide +kernel
theorem yt_X11_count_11 : decode cX11_count 11 = .ok (.goto 12, 3) := by decide +kernel
theorem yt_X11_count_23 : decode cX11_count 23 = .ok (.ireturn, 1) := by decide +kernel
theorem yt_X11_count_4 : decode cX11_count 4 = .ok (.iload_n 1, 1) := by decide +kernel
theorem yt_X11_count_5 : decode cX11_count 5 = .ok (.iconst 3, 1) := by decide +kernel
theorem yt_X11_count_6 : decode cX11_count 6 = .ok (.if_icmp .lt 8, 3) := by decide +kernel
theorem yt_X11_count_14 : decode cX11_count 14 = .ok (.aload_n 0, 1) := by decide +kernel
theorem yt_X11_count_15 : decode cX11_count 15 = .ok (.getfield 10, 3) := by decide +kernel
theorem yt_X11_count_18 : decode cX11_count 18 = .ok (.getfield 379, 3) := by decide +kernel
theorem yf_RX11_379 : zFok RX11 zTW vwCl (379, 9, 1, none) := ⟨RX9, TX9, 7, rfl, zx_9, by decide, zTi_1 212 (by decide +kernel) rfl, fun _ h => by cases h⟩
theorem yt_X11_count_21 : decode cX11_count 21 = .ok (.iload_n 1, 1) := by decide +kernel
theorem yt_X11_count_22 : decode cX11_count 22 = .ok (.iaload, 1) := by decide +kernel
def xp_X11_count (n : Nat) : yX := (xLd 1 0 (xLt0 (xCst 0 (-2) xRi) (xLd 1 0 (xCst 0 3 (xLt (xLd 0 100065 (xGetO 63 0 28 2 (xGetO 28 1 24 3 (xLd 1 0 (xAld 24 3 xRi))))) (xCst 0 (-2) xRi))))))
theorem s_X11_count {η : zRn} {D : va_G} {cy : Nat → ClassId} {L : List Nat} {Θ : Nat → Option Nat} {p : Program} {l : Launch} {e : Env} {R : Room} {s : State} {m : MethodId} {args : Array Value} {below : List Frame} {meth : Method} {c : Code} {Q : State → Prop} {Qr : yQt} {n : Nat} (Z : yCz η zkds D vwCl cy L Θ 2 p l e R s m args below meth c Q cX11_count (tyW cy) RX11 zTW zKP tyW (some .int) 0 0 Qr) : yGo η zkds D vwCl cy L Θ 2 p l e R s m args below meth c Q 0 (xw Qr 0 (xp_X11_count n)) := (yr_mono x_ld (yr_iload_n Z.1 rfl yt_X11_count_0 (yr_mono x_lt0 (yr_lt0 Z.1 yt_X11_count_1 (by decide) (yr_mono x_cst (yr_bipush Z.1 yt_X11_count_9 (by decide) (yr_goto Z.1 yt_X11_count_11 (by decide) (yr_mono x_ri (yr_ri Z rfl yt_X11_count_23))))) (yr_mono x_ld (yr_iload_n Z.1 rfl yt_X11_count_4 (yr_mono x_cst (yr_iconst Z.1 yt_X11_count_5 (by decide) (yr_mono x_lt (yr_lt Z.1 yt_X11_count_6 (by decide) (yr_mono x_ld (yr_aload_n Z.1 rfl (by decide) yt_X11_count_14 (yr_mono x_geto (yr_getP (lo := 0) (hi := 2147483647) Z.1 yf_RX11_10 (by decide +kernel) yt_X11_count_15 (yr_mono x_geto (yr_getP (lo := 0) (hi := 2147483647) Z.1 yf_RX11_379 (by decide +kernel) yt_X11_count_18 (yr_mono x_ld (yr_iload_n Z.1 rfl yt_X11_count_21 (yr_mono x_ald (yr_iald (lo := 0) (hi := 2) Z.1 (by decide +kernel) yt_X11_count_22 (yr_mono x_ri (yr_ri Z rfl yt_X11_count_23)))))))))))) (yr_mono x_cst (yr_bipush Z.1 yt_X11_count_9 (by decide) (yr_goto Z.1 yt_X11_count_11 (by decide) (yr_mono x_ri (yr_ri Z rfl yt_X11_count_23)))))))))))))))
def f_X11_count : yFn := fun n ys h => (fun n => xp_X11_count n) n (yar 0 ([100065, 0].zip ys)) [] h
theorem m_X11_count (l : Launch) : yMet zkds vwCl zTW zKP l (yX11_count, cX11_count, 2, (some .int)) 0 0 [100065, 0] (yF 0 f_X11_count) := y_metF zkp_ok zTW_good (yX11_count, cX11_count, 2, (some .int)) 0 0 [100065, 0] 0 (fun n => xp_X11_count n) (by decide +kernel) (by decide) (fun η D cy L Θ p e R s m args below meth c Q Qr n Z => s_X11_count (n := n) Z)
set_option maxRecDepth 100000 in
theorem e_X11_count {n : Nat} {x1 : Int} {h : yH} : f_X11_count n [1, x1] h = if x1 < 0 then (some ((-2), h)) else (if x1 < 3 then (xg (h 1 0 = 3) (xg (h 3 1 = 6) (xg (0 ≤ x1 ∧ x1 < 3) (some ((h 6 x1.toNat), h))))) else (some ((-2), h))) := by rfl
set_option maxRecDepth 100000 in
theorem yq_X11_fault : tables_1_4[7]? = some (.code yX11_fault cX11_fault 2 (some .int)) := rfl
theorem yw_X11_fault : zMV yX11_fault cX11_fault 2 (some .int) 1 := ⟨⟨zTi_1 1 (by decide +kernel) rfl, zTi_4 7 yq_X11_fault rfl, ⟨by decide, by decide⟩, by decide +kernel⟩, zTi_4 5 (by decide +kernel) rfl, zTi_4 6 (by decide +kernel) rfl⟩
theorem yt_X11_fault_0 : decode cX11_fault 0 = .ok (.iload_n 1, 1) := by decide +kernel
theorem yt_X11_fault_1 : decode cX11_fault 1 = .ok (.ifCond .ne 11, 3) := by decide +kernel
theorem yt_X11_fault_12 : decode cX11_fault 12 = .ok (.iload_n 1, 1) := by decide +kernel
theorem yt_X11_fault_13 : decode cX11_fault 13 = .ok (.iconst 1, 1) := by decide +kernel
theorem yt_X11_fault_14 : decode cX11_fault 14 = .ok (.if_icmp .ne 13, 3) := by decide +kernel
theorem yt_X11_fault_27 : decode cX11_fault 27 = .ok (.iconst (-1), 1) := by decide +kernel
theorem yt_X11_fault_28 : decode cX11_fault 28 = .ok (.ireturn, 1) := by decide +kernel
theorem yt_X11_fault_17 : decode cX11_fault 17 = .ok (.aload_n 0, 1) := by decide +kernel
theorem yt_X11_fault_18 : decode cX11_fault 18 = .ok (.getfield 10, 3) := by decide +kernel
theorem yt_X11_fault_21 : decode cX11_fault 21 = .ok (.getfield 92, 3) := by decide +kernel
theorem yf_RX11_92 : zFok RX11 zTW vwCl (92, 9, 6, (some .int)) := ⟨RX9, TX9, 7, rfl, zx_9, by decide, zTi_1 219 (by decide +kernel) rfl, fun ty h => ⟨rfl, tyX9, tyX9_ok, nmX9, by cases h; rfl⟩⟩
theorem yt_X11_fault_24 : decode cX11_fault 24 = .ok (.goto 4, 3) := by decide +kernel
theorem yt_X11_fault_4 : decode cX11_fault 4 = .ok (.aload_n 0, 1) := by decide +kernel
theorem yt_X11_fault_5 : decode cX11_fault 5 = .ok (.getfield 10, 3) := by decide +kernel
theorem yt_X11_fault_8 : decode cX11_fault 8 = .ok (.getfield 91, 3) := by decide +kernel
theorem yf_RX11_91 : zFok RX11 zTW vwCl (91, 9, 5, (some .int)) := ⟨RX9, TX9, 7, rfl, zx_9, by decide, zTi_1 217 (by decide +kernel) rfl, fun ty h => ⟨rfl, tyX9, tyX9_ok, nmX9, by cases h; rfl⟩⟩
theorem yt_X11_fault_11 : decode cX11_fault 11 = .ok (.ireturn, 1) := by decide +kernel
def xp_X11_fault (n : Nat) : yX := (xLd 1 0 (xEq0 (xLd 0 100065 (xGetO 63 0 28 2 (xGet 28 5 0 xRi))) (xLd 1 0 (xCst 0 1 (xEq (xLd 0 100065 (xGetO 63 0 28 2 (xGet 28 6 0 xRi))) (xCst 0 (-1) xRi))))))
theorem s_X11_fault {η : zRn} {D : va_G} {cy : Nat → ClassId} {L : List Nat} {Θ : Nat → Option Nat} {p : Program} {l : Launch} {e : Env} {R : Room} {s : State} {m : MethodId} {args : Array Value} {below : List Frame} {meth : Method} {c : Code} {Q : State → Prop} {Qr : yQt} {n : Nat} (Z : yCz η zkds D vwCl cy L Θ 2 p l e R s m args below meth c Q cX11_fault (tyW cy) RX11 zTW zKP tyW (some .int) 0 0 Qr) : yGo η zkds D vwCl cy L Θ 2 p l e R s m args below meth c Q 0 (xw Qr 0 (xp_X11_fault n)) := (yr_mono x_ld (yr_iload_n Z.1 rfl yt_X11_fault_0 (yr_mono x_eq0 (yr_ne0 Z.1 yt_X11_fault_1 (by decide) (yr_mono x_ld (yr_iload_n Z.1 rfl yt_X11_fault_12 (yr_mono x_cst (yr_iconst Z.1 yt_X11_fault_13 (by decide) (yr_mono x_eq (yr_ne Z.1 yt_X11_fault_14 (by decide) (yr_mono x_cst (yr_iconst Z.1 yt_X11_fault_27 (by decide) (yr_mono x_ri (yr_ri Z rfl yt_X11_fault_28)))) (yr_mono x_ld (yr_aload_n Z.1 rfl (by decide) yt_X11_fault_17 (yr_mono x_geto (yr_getP (lo := 0) (hi := 2147483647) Z.1 yf_RX11_10 (by decide +kernel) yt_X11_fault_18 (yr_mono x_get (yr_get (lo := (-2147483648)) (hi := 2147483647) Z.1 yf_RX11_92 (by decide +kernel) yt_X11_fault_21 (yr_goto Z.1 yt_X11_fault_24 (by decide) (yr_mono x_ri (yr_ri Z rfl yt_X11_fault_28))))))))))))))) (yr_mono x_ld (yr_aload_n Z.1 rfl (by decide) yt_X11_fault_4 (yr_mono x_geto (yr_getP (lo := 0) (hi := 2147483647) Z.1 yf_RX11_10 (by decide +kernel) yt_X11_fault_5 (yr_mono x_get (yr_get (lo := (-2147483648)) (hi := 2147483647) Z.1 yf_RX11_91 (by decide +kernel) yt_X11_fault_8 (yr_mono x_ri (yr_ri Z rfl yt_X11_fault_11))))))))))))
def f_X11_fault : yFn := fun n ys h => (fun n => xp_X11_fault n) n (yar 0 ([100065, 0].zip ys)) [] h
theorem m_X11_fault (l : Launch) : yMet zkds vwCl zTW zKP l (yX11_fault, cX11_fault, 2, (some .int)) 0 0 [100065, 0] (yF 0 f_X11_fault) := y_metF zkp_ok zTW_good (yX11_fault, cX11_fault, 2, (some .int)) 0 0 [100065, 0] 0 (fun n => xp_X11_fault n) (by decide +kernel) (by decide) (fun η D cy L Θ p e R s m args below meth c Q Qr n Z => s_X11_fault (n := n) Z)
set_option maxRecDepth 100000 in
theorem e_X11_fault {n : Nat} {x1 : Int} {h : yH} : f_X11_fault n [1, x1] h = if x1 = 0 then (xg (h 1 0 = 3) (some ((h 3 5), h))) else (if x1 = 1 then (xg (h 1 0 = 3) (some ((h 3 6), h))) else (some ((-1), h))) := by rfl
end
section
/-! the class: the tape is fed -/
/-- a byte of a number -/
def cBy (x : Int) (i : Nat) : Int := yi2b (yushr x (24 - 8 * (i : Int)))
theorem put_l {x : Int} {m : Nat} {h : yH} (hP : cP h) (h4 : h 4 1 = (m : Int)) (hm : m + 4 ≤ 600) (hb : ∀ i, i < 4 → -128 ≤ cBy x i ∧ cBy x i ≤ 127) : ∀ (c i n : Nat) (g : yH), 4 - i = c → i ≤ 4 → c < n → cP g → g 4 1 = (m : Int) + (i : Int) → (∀ a j, ¬ (a = 4 ∧ j = 1) → g a j = if a = 5 ∧ m ≤ j ∧ j < m + i then cBy x (j - m) else h a j) →
    ∃ h2, xl_X8_put n 3 [4, x, 24 - 8 * (i : Int)] g = some (0, h2) ∧ cP h2 ∧ h2 4 1 = (m : Int) + 4 ∧ ∀ a j, ¬ (a = 4 ∧ j = 1) → h2 a j = if a = 5 ∧ m ≤ j ∧ j < m + 4 then cBy x (j - m) else h a j := by
  intro c
  induction c with
  | zero =>
    intro i n g e1 e2 e3 gP g4 gh
    obtain ⟨n, rfl⟩ : ∃ n', n = n' + 1 := ⟨n - 1, by omega⟩
    obtain rfl : i = 4 := by omega
    rw [e_X8_put_3, if_pos (by omega)]
    exact ⟨g, rfl, gP, g4, gh⟩
  | succ c ih =>
    intro i n g e1 e2 e3 gP g4 gh
    obtain ⟨n, rfl⟩ : ∃ n', n = n' + 1 := ⟨n - 1, by omega⟩
    have hbi := hb i (by omega)
    have cf5 : ∀ j, cF 5 j = false := fun j => by
      unfold cF
      rw [List.any_eq_false]
      intro p hp
      have : ∀ p ∈ cPL, p.1 ≠ 5 := by decide +kernel
      simp [this p hp]
    rw [e_X8_put_3, if_neg (by omega), g4, if_pos (by omega), xg_pos (gP.p (by decide)), xg_pos (by omega)]
    rw [show yi2b (yushr x (24 - 8 * (i : Int))) = cBy x i from rfl, xg_pos hbi, xg_pos (by omega), xg_pos (by omega), xg_pos (by omega), show ((m : Int) + (i : Int)).toNat = m + i by omega, show 24 - 8 * (i : Int) + -8 = 24 - 8 * ((i + 1 : Nat) : Int) by omega]
    refine ih (i + 1) n _ (by omega) (by omega) (by omega) ((gP.up (cf5 _)).up (by decide)) (by rw [zup_at]; omega) (fun a j w => ?_)
    rw [zup_ne w]
    by_cases c1 : a = 5 ∧ j = m + i
    · rw [c1.1, c1.2, zup_at, if_pos (by omega), show m + i - m = i by omega]
    · rw [zup_ne c1, gh a j w]
      by_cases c2 : a = 5 ∧ m ≤ j ∧ j < m + i
      · rw [if_pos c2, if_pos (by omega)]
      · rw [if_neg c2, if_neg (by omega)]
theorem put_e {n m : Nat} {x : Int} {h : yH} (hn : 6 ≤ n) (hP : cP h) (h4 : h 4 1 = (m : Int)) (hm : m + 4 ≤ 600) (hb : ∀ i, i < 4 → -128 ≤ cBy x i ∧ cBy x i ≤ 127) : ∃ h2, f_X8_put n [4, x] h = some (0, h2) ∧ cP h2 ∧ h2 4 1 = (m : Int) + 4 ∧ ∀ a j, ¬ (a = 4 ∧ j = 1) → h2 a j = if a = 5 ∧ m ≤ j ∧ j < m + 4 then cBy x (j - m) else h a j := by
  rw [e_X8_put]
  exact put_l hP h4 hm hb 4 0 n h rfl (by omega) (by omega) hP (by rw [h4]; omega) (fun a j w => by rw [if_neg (by omega)])
end
