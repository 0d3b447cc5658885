/-! the class: a text is read -/
/-- the furthest cell, boat or saying that is told of -/
def dI (d o : Int) : Prop := ((decide (o = -1) && decide (0 ≤ d) && decide (d < 1)) || (decide (o = 0) && decide (1 ≤ d) && decide (d < 2)) || (decide (o = 1) && decide (2 ≤ d) && decide (d < 4)) || (decide (o = 2) && decide (4 ≤ d) && decide (d < 8)) || (decide (o = 3) && decide (8 ≤ d) && decide (d < 16)) || (decide (o = 4) && decide (16 ≤ d) && decide (d < 32)) || (decide (o = 5) && decide (32 ≤ d) && decide (d < 64))) = true
theorem dI_b {d o : Int} (h : dI d o) : 0 ≤ d ∧ d < 64 ∧ -1 ≤ o ∧ o ≤ 5 := by
  unfold dI at h
  simp only [Bool.or_eq_true, Bool.and_eq_true, decide_eq_true_eq] at h
  omega
theorem dI_shF : ∀ d : Fin 64, ∀ b : Fin 7, ∀ o : Fin 7, ((decide (((o.val : Int) - 1) = -1) && decide (0 ≤ (d.val : Int)) && decide ((d.val : Int) < 1)) || (decide (((o.val : Int) - 1) = 0) && decide (1 ≤ (d.val : Int)) && decide ((d.val : Int) < 2)) || (decide (((o.val : Int) - 1) = 1) && decide (2 ≤ (d.val : Int)) && decide ((d.val : Int) < 4)) || (decide (((o.val : Int) - 1) = 2) && decide (4 ≤ (d.val : Int)) && decide ((d.val : Int) < 8)) || (decide (((o.val : Int) - 1) = 3) && decide (8 ≤ (d.val : Int)) && decide ((d.val : Int) < 16)) || (decide (((o.val : Int) - 1) = 4) && decide (16 ≤ (d.val : Int)) && decide ((d.val : Int) < 32)) || (decide (((o.val : Int) - 1) = 5) && decide (32 ≤ (d.val : Int)) && decide ((d.val : Int) < 64))) = true → (yari 6 (d.val : Int) (b.val : Int) = 0 ↔ ((o.val : Int) - 1) < (b.val : Int)) := by decide +kernel
theorem dI_orF : ∀ d : Fin 64, ∀ v : Fin 6, ∀ o : Fin 7, ((decide (((o.val : Int) - 1) = -1) && decide (0 ≤ (d.val : Int)) && decide ((d.val : Int) < 1)) || (decide (((o.val : Int) - 1) = 0) && decide (1 ≤ (d.val : Int)) && decide ((d.val : Int) < 2)) || (decide (((o.val : Int) - 1) = 1) && decide (2 ≤ (d.val : Int)) && decide ((d.val : Int) < 4)) || (decide (((o.val : Int) - 1) = 2) && decide (4 ≤ (d.val : Int)) && decide ((d.val : Int) < 8)) || (decide (((o.val : Int) - 1) = 3) && decide (8 ≤ (d.val : Int)) && decide ((d.val : Int) < 16)) || (decide (((o.val : Int) - 1) = 4) && decide (16 ≤ (d.val : Int)) && decide ((d.val : Int) < 32)) || (decide (((o.val : Int) - 1) = 5) && decide (32 ≤ (d.val : Int)) && decide ((d.val : Int) < 64))) = true → ((decide ((max ((o.val : Int) - 1) (v.val : Int)) = -1) && decide (0 ≤ (yari 8 (d.val : Int) (yari 5 1 (v.val : Int)))) && decide ((yari 8 (d.val : Int) (yari 5 1 (v.val : Int))) < 1)) || (decide ((max ((o.val : Int) - 1) (v.val : Int)) = 0) && decide (1 ≤ (yari 8 (d.val : Int) (yari 5 1 (v.val : Int)))) && decide ((yari 8 (d.val : Int) (yari 5 1 (v.val : Int))) < 2)) || (decide ((max ((o.val : Int) - 1) (v.val : Int)) = 1) && decide (2 ≤ (yari 8 (d.val : Int) (yari 5 1 (v.val : Int)))) && decide ((yari 8 (d.val : Int) (yari 5 1 (v.val : Int))) < 4)) || (decide ((max ((o.val : Int) - 1) (v.val : Int)) = 2) && decide (4 ≤ (yari 8 (d.val : Int) (yari 5 1 (v.val : Int)))) && decide ((yari 8 (d.val : Int) (yari 5 1 (v.val : Int))) < 8)) || (decide ((max ((o.val : Int) - 1) (v.val : Int)) = 3) && decide (8 ≤ (yari 8 (d.val : Int) (yari 5 1 (v.val : Int)))) && decide ((yari 8 (d.val : Int) (yari 5 1 (v.val : Int))) < 16)) || (decide ((max ((o.val : Int) - 1) (v.val : Int)) = 4) && decide (16 ≤ (yari 8 (d.val : Int) (yari 5 1 (v.val : Int)))) && decide ((yari 8 (d.val : Int) (yari 5 1 (v.val : Int))) < 32)) || (decide ((max ((o.val : Int) - 1) (v.val : Int)) = 5) && decide (32 ≤ (yari 8 (d.val : Int) (yari 5 1 (v.val : Int)))) && decide ((yari 8 (d.val : Int) (yari 5 1 (v.val : Int))) < 64))) = true := by decide +kernel
theorem dI_sh {d o b : Int} (h : dI d o) (hb : 0 ≤ b ∧ b ≤ 6) : yari 6 d b = 0 ↔ o < b := by
  have hd := dI_b h
  have := dI_shF ⟨d.toNat, by omega⟩ ⟨b.toNat, by omega⟩ ⟨(o + 1).toNat, by omega⟩
  simp only at this
  rw [show ((d.toNat : Nat) : Int) = d by omega, show ((b.toNat : Nat) : Int) = b by omega, show (((o + 1).toNat : Nat) : Int) - 1 = o by omega] at this
  exact this h
theorem dI_or {d o v : Int} (h : dI d o) (hv : 0 ≤ v ∧ v ≤ 5) : dI (yari 8 d (yari 5 1 v)) (max o v) := by
  have hd := dI_b h
  have := dI_orF ⟨d.toNat, by omega⟩ ⟨v.toNat, by omega⟩ ⟨(o + 1).toNat, by omega⟩
  simp only at this
  rw [show ((d.toNat : Nat) : Int) = d by omega, show ((v.toNat : Nat) : Int) = v by omega, show (((o + 1).toNat : Nat) : Int) - 1 = o by omega] at this
  exact this h
def cM0 (t : Nat → Int) (c : Int) : Prop := c = -1 ∨ (∃ k : Nat, (k : Int) < t 5 ∧ t (19 + 3 * k) = c) ∨ ∃ k : Nat, (k : Int) < t 6 ∧ t (31 + 3 * k) = c
def cM2 (t : Nat → Int) (o : Int) : Prop := o = -1 ∨ ∃ k : Nat, (k : Int) < t 1 ∧ (t (20 + 2 * k) = o ∨ t (21 + 2 * k) = o)
def cI0 (t : Nat → Int) (c o : Int) : Prop := (∀ k : Nat, (k : Int) < t 5 → t (19 + 3 * k) ≤ c) ∧ (∀ k : Nat, (k : Int) < t 6 → t (31 + 3 * k) ≤ c) ∧ cM0 t c ∧ dI (t 49) o
def cI2 (t : Nat → Int) (o : Int) : Prop := (∀ k : Nat, (k : Int) < t 1 → t (20 + 2 * k) ≤ o ∧ t (21 + 2 * k) ≤ o) ∧ cM2 t o
def cI (of : Nat) (t : Nat → Int) (c o : Int) : Prop := (of = 0 → cI0 t c o) ∧ (of = 2 → cI2 t o)
theorem tU_cI {t : Nat → Int} {c o : Int} {j : Nat} {x : Int} (h : cI0 t c o) (hj : j < 5 ∨ (7 ≤ j ∧ j < 19)) : cI0 (tU t j x) c o := by
  obtain ⟨a1, a2, a3, a4⟩ := h
  have e : ∀ i, i = 5 ∨ i = 6 ∨ 19 ≤ i → tU t j x i = t i := fun i w => tU_ne (by omega)
  refine ⟨fun k hk => ?_, fun k hk => ?_, ?_, ?_⟩
  · rw [e 5 (by omega)] at hk; rw [e _ (by omega)]; exact a1 k hk
  · rw [e 6 (by omega)] at hk; rw [e _ (by omega)]; exact a2 k hk
  · rcases a3 with w | ⟨k, k1, k2⟩ | ⟨k, k1, k2⟩
    · exact Or.inl w
    · exact Or.inr (Or.inl ⟨k, by rw [e 5 (by omega)]; exact k1, by rw [e _ (by omega)]; exact k2⟩)
    · exact Or.inr (Or.inr ⟨k, by rw [e 6 (by omega)]; exact k1, by rw [e _ (by omega)]; exact k2⟩)
  · rw [e 49 (by omega)]; exact a4
theorem cI_T {of ln : Nat} {v t : Nat → Int} {c o : Int} (hof : of ≤ 2) (hi : lnIn of ln) (h : cI of t c o) (hW : tWf of t) (hg : ∀ j, j < lnN ln → ¬ lnB ln v j) (hM : ¬ (lnAdds ln ∧ t (lnC ln) = lnM ln)) : cI of (lnT ln v t) (lnFc ln v c) (lnFo ln v o) := by
  obtain ⟨n0, n1, n2, n3, n4, n5, n6, n13, n14⟩ := lnN_v
  rcases lnIn_j hof hi with ⟨rfl, hl⟩ | ⟨rfl, hl⟩ | ⟨rfl, hl⟩
  · refine ⟨fun _ => ?_, fun e => absurd e (by decide)⟩
    have h0 := h.1 rfl
    have hw := hW.1 rfl
    have w5 : 0 ≤ t 5 ∧ t 5 ≤ 4 := hw.2.2.2.2.2.1
    have w6 : 0 ≤ t 6 ∧ t 6 ≤ 6 := hw.2.2.2.2.2.2.1
    rcases (show ln = 0 ∨ ln = 1 ∨ ln = 2 ∨ ln = 3 ∨ ln = 4 ∨ ln = 5 ∨ ln = 6 by omega) with rfl | rfl | rfl | rfl | rfl | rfl | rfl
    · exact tU_cI (tU_cI h0 (by omega)) (by omega)
    · exact tU_cI (tU_cI h0 (by omega)) (by omega)
    · exact tU_cI h0 (by omega)
    · have b0 := lnG (hg 0 (by omega)) (lo := 0) (hi := 2) (by decide +kernel) (by decide +kernel)
      exact tU_cI (tU_cI (tU_cI (tU_cI h0 (by omega)) (by omega)) (by omega)) (by omega)
    · have hM4 : t 5 ≠ 4 := fun e => hM ⟨Or.inl rfl, e⟩
      have et : lnT 4 v t = tK t 5 19 3 4 v := rfl
      have ec : lnFc 4 v c = max c (v 0) := rfl
      have eo : lnFo 4 v o = o := rfl
      rw [et, ec, eo]
      have e5 : tK t 5 19 3 4 v 5 = t 5 + 1 := tK_c1 hM4
      have en : tK t 5 19 3 4 v (19 + 3 * (t 5).toNat) = v 0 := tK_new (r := 0) hM4 (by decide) (by decide)
      have e : ∀ i, ¬ (i = 5 ∨ (19 + 3 * (t 5).toNat ≤ i ∧ i < 22 + 3 * (t 5).toNat)) → tK t 5 19 3 4 v i = t i := fun i w => tK_old (by omega) (by omega)
      obtain ⟨a1, a2, a3, a4⟩ := h0
      refine ⟨fun k hk => ?_, fun k hk => ?_, ?_, ?_⟩
      · rw [e5] at hk
        by_cases w : (k : Int) = t 5
        · obtain rfl : k = (t 5).toNat := by omega
          rw [en]; omega
        · rw [e _ (by omega)]
          have := a1 k (by omega)
          omega
      · rw [e 6 (by omega)] at hk
        rw [e _ (by omega)]
        have := a2 k hk
        omega
      · by_cases w : v 0 ≤ c
        · rw [Int.max_eq_left w]; unfold cM0; rw [e5, e 6 (by omega)]
          rcases a3 with w | ⟨k, k1, k2⟩ | ⟨k, k1, k2⟩
          · exact Or.inl w
          · exact Or.inr (Or.inl ⟨k, by omega, by rw [e _ (by omega)]; exact k2⟩)
          · exact Or.inr (Or.inr ⟨k, k1, by rw [e _ (by omega)]; exact k2⟩)
        · rw [Int.max_eq_right (by omega)]; unfold cM0; rw [e5]
          exact Or.inr (Or.inl ⟨(t 5).toNat, by omega, en⟩)
      · rw [e 49 (by omega)]; exact a4
    · have hM5 : t 6 ≠ 6 := fun e => hM ⟨Or.inr (Or.inl rfl), e⟩
      have et : lnT 5 v t = tK t 6 31 3 6 v := rfl
      have ec : lnFc 5 v c = max c (v 0) := rfl
      have eo : lnFo 5 v o = o := rfl
      rw [et, ec, eo]
      have e6 : tK t 6 31 3 6 v 6 = t 6 + 1 := tK_c1 hM5
      have en : tK t 6 31 3 6 v (31 + 3 * (t 6).toNat) = v 0 := tK_new (r := 0) hM5 (by decide) (by decide)
      have e : ∀ i, ¬ (i = 6 ∨ (31 + 3 * (t 6).toNat ≤ i ∧ i < 34 + 3 * (t 6).toNat)) → tK t 6 31 3 6 v i = t i := fun i w => tK_old (by omega) (by omega)
      obtain ⟨a1, a2, a3, a4⟩ := h0
      refine ⟨fun k hk => ?_, fun k hk => ?_, ?_, ?_⟩
      · rw [e 5 (by omega)] at hk
        rw [e _ (by omega)]
        have := a1 k hk
        omega
      · rw [e6] at hk
        by_cases w : (k : Int) = t 6
        · obtain rfl : k = (t 6).toNat := by omega
          rw [en]; omega
        · rw [e _ (by omega)]
          have := a2 k (by omega)
          omega
      · by_cases w : v 0 ≤ c
        · rw [Int.max_eq_left w]; unfold cM0; rw [e6, e 5 (by omega)]
          rcases a3 with w | ⟨k, k1, k2⟩ | ⟨k, k1, k2⟩
          · exact Or.inl w
          · exact Or.inr (Or.inl ⟨k, k1, by rw [e _ (by omega)]; exact k2⟩)
          · exact Or.inr (Or.inr ⟨k, by omega, by rw [e _ (by omega)]; exact k2⟩)
        · rw [Int.max_eq_right (by omega)]; unfold cM0; rw [e6]
          exact Or.inr (Or.inr ⟨(t 6).toNat, by omega, en⟩)
      · rw [e 49 (by omega)]; exact a4
    · have b0 := lnG (hg 0 (by omega)) (lo := 0) (hi := 5) (by decide +kernel) (by decide +kernel)
      have et : lnT 6 v t = tU t 49 (yari 8 (t 49) (yari 5 1 (v 0))) := rfl
      have ec : lnFc 6 v c = c := rfl
      have eo : lnFo 6 v o = max o (v 0) := rfl
      rw [et, ec, eo]
      have e : ∀ i, i ≠ 49 → tU t 49 (yari 8 (t 49) (yari 5 1 (v 0))) i = t i := fun i w => tU_ne w
      obtain ⟨a1, a2, a3, a4⟩ := h0
      refine ⟨fun k hk => ?_, fun k hk => ?_, ?_, ?_⟩
      · rw [e 5 (by omega)] at hk; rw [e _ (by omega)]; exact a1 k hk
      · rw [e 6 (by omega)] at hk; rw [e _ (by omega)]; exact a2 k hk
      · unfold cM0
        rw [e 5 (by omega), e 6 (by omega)]
        rcases a3 with w | ⟨k, k1, k2⟩ | ⟨k, k1, k2⟩
        · exact Or.inl w
        · exact Or.inr (Or.inl ⟨k, k1, by rw [e _ (by omega)]; exact k2⟩)
        · exact Or.inr (Or.inr ⟨k, k1, by rw [e _ (by omega)]; exact k2⟩)
      · rw [tU_at]
        exact dI_or a4 b0
  · exact ⟨fun e => absurd e (by decide), fun e => absurd e (by decide)⟩
  · refine ⟨fun e => absurd e (by decide), fun _ => ?_⟩
    have h0 := h.2 rfl
    have hw := hW.2.2 rfl
    have w0 : 0 ≤ t 0 ∧ t 0 ≤ 9 := hw.1
    have w1 : 0 ≤ t 1 ∧ t 1 ≤ 16 := hw.2.1
    obtain ⟨a1, a2⟩ := h0
    rcases (show ln = 13 ∨ ln = 14 by omega) with rfl | rfl
    · have hM3 : t 0 ≠ 9 := fun e => hM ⟨Or.inr (Or.inr (by decide)), e⟩
      have et : lnT 13 v t = tK t 0 2 2 9 v := rfl
      have eo : lnFo 13 v o = o := rfl
      rw [et, eo]
      have e : ∀ i, ¬ (i = 0 ∨ (2 + 2 * (t 0).toNat ≤ i ∧ i < 4 + 2 * (t 0).toNat)) → tK t 0 2 2 9 v i = t i := fun i w => tK_old (by omega) (by omega)
      have hm : t 0 < 9 := by omega
      refine ⟨fun k hk => ?_, ?_⟩
      · rw [e 1 (by omega)] at hk
        rw [e _ (by omega), e _ (by omega)]
        exact a1 k hk
      · rcases a2 with w | ⟨k, k1, k2⟩
        · exact Or.inl w
        · exact Or.inr ⟨k, by rw [e 1 (by omega)]; exact k1, by rw [e _ (by omega), e _ (by omega)]; exact k2⟩
    · have hM3 : t 1 ≠ 16 := fun e => hM ⟨Or.inr (Or.inr (by decide)), e⟩
      have et : lnT 14 v t = tK t 1 20 2 16 v := rfl
      have eo : lnFo 14 v o = max o (max (v 0) (v 1)) := rfl
      rw [et, eo]
      have e1 : tK t 1 20 2 16 v 1 = t 1 + 1 := tK_c1 hM3
      have en0 : tK t 1 20 2 16 v (20 + 2 * (t 1).toNat) = v 0 := tK_new (r := 0) hM3 (by decide) (by decide)
      have en1 : tK t 1 20 2 16 v (20 + 2 * (t 1).toNat + 1) = v 1 := tK_new (r := 1) hM3 (by decide) (by decide)
      rw [show 20 + 2 * (t 1).toNat + 1 = 21 + 2 * (t 1).toNat by omega] at en1
      have e : ∀ i, ¬ (i = 1 ∨ (20 + 2 * (t 1).toNat ≤ i ∧ i < 22 + 2 * (t 1).toNat)) → tK t 1 20 2 16 v i = t i := fun i w => tK_old (by omega) (by omega)
      refine ⟨fun k hk => ?_, ?_⟩
      · rw [e1] at hk
        by_cases w : (k : Int) = t 1
        · obtain rfl : k = (t 1).toNat := by omega
          rw [en0, en1]; omega
        · rw [e _ (by omega), e _ (by omega)]
          have := a1 k (by omega)
          omega
      · by_cases w : max (v 0) (v 1) ≤ o
        · rw [Int.max_eq_left w]; unfold cM2; rw [e1]
          rcases a2 with w | ⟨k, k1, k2⟩
          · exact Or.inl w
          · exact Or.inr ⟨k, by omega, by rw [e _ (by omega), e _ (by omega)]; exact k2⟩
        · rw [Int.max_eq_right (by omega)]; unfold cM2; rw [e1]
          refine Or.inr ⟨(t 1).toNat, by omega, ?_⟩
          rw [en0, en1]
          omega
/-! whole or not -/
theorem mul_b {a b : Int} (ha : 2 ≤ a ∧ a ≤ 8) (hb : 2 ≤ b ∧ b ≤ 8) : 4 ≤ a * b ∧ a * b ≤ 64 := by
  rcases (show a = 2 ∨ a = 3 ∨ a = 4 ∨ a = 5 ∨ a = 6 ∨ a = 7 ∨ a = 8 by omega) with rfl | rfl | rfl | rfl | rfl | rfl | rfl <;> omega
theorem cell_e {n : Nat} {t : Nat → Int} {x : Int} {h : yH} (hS : cS 90 t h) (hW : tW0 t) (hx : 0 ≤ x) : f_X6_hasCell n [90, x] h = some (if x < t 0 * t 1 then 1 else 0, h) := by
  have hm := mul_b hW.1 hW.2.1
  rw [e_X6_hasCell, if_neg (by omega), e_X6_cells, hS.1, hS.2.1, xg_pos (by omega), xb_some]
  by_cases w : x < t 0 * t 1
  · rw [if_pos w, if_pos w]
  · rw [if_neg w, if_neg w]
theorem whole_b {t : Nat → Int} {h : yH} (hP : cP h) (hS : cS 90 t h) (hW : tW0 t) : ∀ (m k n : Nat), 7 - k = m → m < n → k ≤ 6 → ∃ w, xl_X6_isWhole n 33 [90, (k : Int)] h = some (w, h) ∧ (w ≠ 0 ↔ (∀ j : Nat, k ≤ j → (j : Int) < t 6 → t (31 + 3 * j) < t 0 * t 1) ∧ yari 6 (t 49) (t 6) = 0) := by
  have w6 : 0 ≤ t 6 ∧ t 6 ≤ 6 := hW.2.2.2.2.2.2.1
  intro m
  induction m with
  | zero => intro k n h1 h2 h3; omega
  | succ m ih =>
    intro k n h1 h2 h3
    obtain ⟨n, rfl⟩ : ∃ n', n = n' + 1 := ⟨n - 1, by omega⟩
    obtain ⟨a0, a1, a2, a3, a4, a5, a6, a7, a8, a9, a10⟩ := hS
    have hS : cS 90 t h := ⟨a0, a1, a2, a3, a4, a5, a6, a7, a8, a9, a10⟩
    rw [e_X6_isWhole_33, a6]
    by_cases hk : (k : Int) < t 6
    · have c0 := (a10 k hk).1
      have c1 := (hW.2.2.2.2.2.2.2.2.2.2 k (by omega)).1
      have c0' : h 95 k = t (31 + 3 * k) := c0
      rw [if_pos hk, xg_pos (hP.p (by decide)), xg_pos (by omega), Int.toNat_natCast, c0', cell_e hS hW (by omega), xb_some]
      by_cases w : t (31 + 3 * k) < t 0 * t 1
      · rw [if_pos w, if_neg (by decide), xg_pos (by omega)]
        obtain ⟨v, g1, g2⟩ := ih (k + 1) n (by omega) (by omega) (by omega)
        refine ⟨v, g1, g2.trans ⟨fun q => ⟨fun j hj hj2 => ?_, q.2⟩, fun q => ⟨fun j hj hj2 => q.1 j (by omega) hj2, q.2⟩⟩⟩
        by_cases e : j = k
        · rw [e]; exact w
        · exact q.1 j (by omega) hj2
      · rw [if_neg w, if_pos rfl]
        exact ⟨0, rfl, fun q => absurd rfl q, fun q => absurd (q.1 k (by omega) hk) w⟩
    · rw [if_neg hk, a7]
      by_cases w : yari 6 (t 49) (t 6) = 0
      · rw [if_pos w]
        exact ⟨1, rfl, fun _ => ⟨fun j hj hj2 => by omega, w⟩, fun _ => by decide⟩
      · rw [if_neg w]
        exact ⟨0, rfl, fun q => absurd rfl q, fun q => absurd q.2 w⟩
theorem whole_s {t : Nat → Int} {h : yH} (hP : cP h) (hS : cS 90 t h) (hW : tW0 t) : ∀ (m k n : Nat), 5 - k = m → m + 10 < n → k ≤ 4 → ∃ w, xl_X6_isWhole n 2 [90, (k : Int)] h = some (w, h) ∧ (w ≠ 0 ↔ (∀ j : Nat, k ≤ j → (j : Int) < t 5 → t (19 + 3 * j) < t 0 * t 1) ∧ (∀ j : Nat, (j : Int) < t 6 → t (31 + 3 * j) < t 0 * t 1) ∧ yari 6 (t 49) (t 6) = 0) := by
  have w5 : 0 ≤ t 5 ∧ t 5 ≤ 4 := hW.2.2.2.2.2.1
  intro m
  induction m with
  | zero => intro k n h1 h2 h3; omega
  | succ m ih =>
    intro k n h1 h2 h3
    obtain ⟨n, rfl⟩ : ∃ n', n = n' + 1 := ⟨n - 1, by omega⟩
    obtain ⟨a0, a1, a2, a3, a4, a5, a6, a7, a8, a9, a10⟩ := hS
    have hS : cS 90 t h := ⟨a0, a1, a2, a3, a4, a5, a6, a7, a8, a9, a10⟩
    rw [e_X6_isWhole_2, a5]
    by_cases hk : (k : Int) < t 5
    · have c0 := (a9 k hk).1
      have c1 := (hW.2.2.2.2.2.2.2.2.2.1 k (by omega)).1
      have c0' : h 92 k = t (19 + 3 * k) := c0
      rw [if_pos hk, xg_pos (hP.p (by decide)), xg_pos (by omega), Int.toNat_natCast, c0', cell_e hS hW (by omega), xb_some]
      by_cases w : t (19 + 3 * k) < t 0 * t 1
      · rw [if_pos w, if_neg (by decide), xg_pos (by omega)]
        obtain ⟨v, g1, g2⟩ := ih (k + 1) n (by omega) (by omega) (by omega)
        refine ⟨v, g1, g2.trans ⟨fun q => ⟨fun j hj hj2 => ?_, q.2⟩, fun q => ⟨fun j hj hj2 => q.1 j (by omega) hj2, q.2⟩⟩⟩
        by_cases e : j = k
        · rw [e]; exact w
        · exact q.1 j (by omega) hj2
      · rw [if_neg w, if_pos rfl]
        exact ⟨0, rfl, fun q => absurd rfl q, fun q => absurd (q.1 k (by omega) hk) w⟩
    · rw [if_neg hk]
      obtain ⟨v, g1, g2⟩ := whole_b hP hS hW 7 0 n rfl (by omega) (by omega)
      exact ⟨v, g1, g2.trans ⟨fun q => ⟨fun j hj hj2 => by omega, fun j hj => q.1 j (by omega) hj, q.2⟩, fun q => ⟨fun j _ hj => q.2.1 j hj, q.2.2⟩⟩⟩
theorem whole_d {t : Nat → Int} {h : yH} (hP : cP h) (hS : cQ 110 t h) (hW : tW2 t) : ∀ (m k n : Nat), 17 - k = m → m < n → k ≤ 16 → ∃ w, xl_X2_isWhole n 2 [110, (k : Int)] h = some (w, h) ∧ (w = 0 ∨ w = 1) ∧ (w ≠ 0 ↔ (∀ j : Nat, k ≤ j → (j : Int) < t 1 → t (20 + 2 * j) < t 0 ∧ t (21 + 2 * j) < t 0) ∧ 0 < t 0) := by
  have w1 : 0 ≤ t 1 ∧ t 1 ≤ 16 := hW.2.1
  intro m
  induction m with
  | zero => intro k n h1 h2 h3; omega
  | succ m ih =>
    intro k n h1 h2 h3
    obtain ⟨n, rfl⟩ : ∃ n', n = n' + 1 := ⟨n - 1, by omega⟩
    obtain ⟨a0, a1, a2, a3⟩ := hS
    have hS : cQ 110 t h := ⟨a0, a1, a2, a3⟩
    rw [e_X2_isWhole_2, a1, a0]
    by_cases hk : (k : Int) < t 1
    · obtain ⟨c0, c1⟩ := a3 k hk
      have c0' : h 113 k = t (20 + 2 * k) := c0
      have c1' : h 114 k = t (21 + 2 * k) := c1
      rw [if_pos hk, xg_pos (hP.p (by decide)), xg_pos (by omega), Int.toNat_natCast, c0']
      by_cases w : t (20 + 2 * k) < t 0
      · rw [if_pos w, xg_pos (hP.p (by decide)), xg_pos (by omega), c1']
        by_cases w2 : t (21 + 2 * k) < t 0
        · rw [if_pos w2, xg_pos (by omega)]
          obtain ⟨v, g1, g0, g2⟩ := ih (k + 1) n (by omega) (by omega) (by omega)
          refine ⟨v, g1, g0, g2.trans ⟨fun q => ⟨fun j hj hj2 => ?_, q.2⟩, fun q => ⟨fun j hj hj2 => q.1 j (by omega) hj2, q.2⟩⟩⟩
          by_cases e : j = k
          · rw [e]; exact ⟨w, w2⟩
          · exact q.1 j (by omega) hj2
        · rw [if_neg w2]
          exact ⟨0, rfl, Or.inl rfl, fun q => absurd rfl q, fun q => absurd (q.1 k (by omega) hk).2 w2⟩
      · rw [if_neg w]
        exact ⟨0, rfl, Or.inl rfl, fun q => absurd rfl q, fun q => absurd (q.1 k (by omega) hk).1 w⟩
    · rw [if_neg hk]
      by_cases w : 0 < t 0
      · rw [if_pos w]
        exact ⟨1, rfl, Or.inr rfl, fun _ => ⟨fun j hj hj2 => by omega, w⟩, fun _ => by decide⟩
      · rw [if_neg w]
        exact ⟨0, rfl, Or.inl rfl, fun q => absurd rfl q, fun q => absurd q.2 w⟩
/-- the end of read(): what is not whole is noted -/
theorem end_e {u : Nat → Int} {N n of : Nat} {x3 x4 : Int} {q : Int × Int} {t : Nat → Int} {g : yH} (hof : of ≤ 2) (hc : cC u N g) (hH : cH of q t g) (hn : 40 ≤ n) : ∃ X : Prop, xq_X4_read_66 n (xl_X4_read n) [80, 4, (of : Int), x3, x4] g = some (0, cN (@nt q X (Classical.propDecidable _) 4 (N : Int)) g) ∧ ∀ c o, q.1 = 0 → cI of t c o → (X ↔ lnX of t c o) := by
  obtain ⟨e3, e4, t2, er, ew, et⟩ := hH
  have eg : cN q g = g := cN_self e3 e4
  have hP := hc.2.2.2
  have note0 : ∀ (X : Prop) (w : X), f_X4_note n [80, 4, (N : Int)] g = some (0, cN (@nt q X (Classical.propDecidable _) 4 (N : Int)) g) := fun X w => by
    have := @note_e n q 4 (N : Int) X (Classical.propDecidable _) g (by decide) w
    rw [eg] at this
    exact this
  have non0 : ∀ (X : Prop) (w : ¬ X), some ((0 : Int), g) = some (0, cN (@nt q X (Classical.propDecidable _) 4 (N : Int)) g) := fun X w => by
    rw [ntf w, eg]
  rw [e_X4_read_66]
  rcases (show of = 0 ∨ of = 1 ∨ of = 2 by omega) with rfl | rfl | rfl
  · have hS := er.1 rfl
    have hw := ew.1 rfl
    obtain ⟨v, g1, g2⟩ := whole_s hP hS hw 5 0 n rfl (by omega) (by omega)
    rw [if_pos (by decide), xg_pos (hP.p (by decide)), e_X6_isWhole]
    have g1' : xl_X6_isWhole n 2 [90, 0] g = some (v, g) := g1
    rw [g1', xb_some, hc.1]
    have hX : ∀ c o, q.1 = 0 → cI 0 t c o → (v = 0 ↔ lnX 0 t c o) := by
      intro c o hq hI
      have ett := et hq
      subst ett
      obtain ⟨a1, a2, a3, a4⟩ := hI.1 rfl
      have hm := mul_b hw.1 hw.2.1
      have w6 : 0 ≤ t2 6 ∧ t2 6 ≤ 6 := hw.2.2.2.2.2.2.1
      have hsh := dI_sh a4 w6
      have g3 : v = 0 ↔ ¬ ((∀ j : Nat, 0 ≤ j → (j : Int) < t2 5 → t2 (19 + 3 * j) < t2 0 * t2 1) ∧ (∀ j : Nat, (j : Int) < t2 6 → t2 (31 + 3 * j) < t2 0 * t2 1) ∧ yari 6 (t2 49) (t2 6) = 0) := ⟨fun e w => absurd e (g2.mpr w), fun w => Classical.byContradiction (fun w2 => w (g2.mp w2))⟩
      rw [g3]
      unfold lnX
      constructor
      · intro w
        refine Or.inl ⟨rfl, ?_⟩
        by_cases c1 : t2 0 * t2 1 ≤ c
        · exact Or.inl c1
        · refine Or.inr (Classical.byContradiction (fun c2 => w ⟨fun j _ hj => ?_, fun j hj => ?_, hsh.mpr (by omega)⟩))
          · have := a1 j hj; omega
          · have := a2 j hj; omega
      · intro w ⟨q1, q2, q3⟩
        rcases w with ⟨-, w | w⟩ | ⟨w, -⟩
        · rcases a3 with e | ⟨k, k1, k2⟩ | ⟨k, k1, k2⟩
          · omega
          · have := q1 k (by omega) k1; omega
          · have := q2 k k1; omega
        · have := hsh.mp q3; omega
        · cases w
    by_cases hv : v = 0
    · rw [if_pos hv, note0 True trivial, xb_some]
      exact ⟨True, rfl, fun c o hq hI => ⟨fun _ => (hX c o hq hI).mp hv, fun _ => trivial⟩⟩
    · rw [if_neg hv, non0 False (fun w => w)]
      exact ⟨False, rfl, fun c o hq hI => ⟨fun w => w.elim, fun w => hv ((hX c o hq hI).mpr w)⟩⟩
  · rw [if_neg (by decide), if_pos (by decide), if_neg (by decide), non0 False (fun w => w)]
    exact ⟨False, rfl, fun c o hq hI => ⟨fun w => w.elim, fun w => by unfold lnX at w; omega⟩⟩
  · have hS := er.2.2 rfl
    have hw := ew.2.2 rfl
    obtain ⟨v, g1, g0, g2⟩ := whole_d hP hS hw 17 0 n rfl (by omega) (by omega)
    rw [if_neg (by decide), if_neg (by decide), xg_pos (hP.p (by decide)), e_X2_isWhole]
    have g1' : xl_X2_isWhole n 2 [110, 0] g = some (v, g) := g1
    rw [g1', xb_some, hc.1]
    have hX : ∀ c o, q.1 = 0 → cI 2 t c o → (v = 0 ↔ lnX 2 t c o) := by
      intro c o hq hI
      have ett := et hq
      subst ett
      obtain ⟨a1, a2⟩ := hI.2 rfl
      have w0 : 0 ≤ t2 0 ∧ t2 0 ≤ 9 := hw.1
      have g3 : v = 0 ↔ ¬ ((∀ j : Nat, 0 ≤ j → (j : Int) < t2 1 → t2 (20 + 2 * j) < t2 0 ∧ t2 (21 + 2 * j) < t2 0) ∧ 0 < t2 0) := ⟨fun e w => absurd e (g2.mpr w), fun w => Classical.byContradiction (fun w2 => w (g2.mp w2))⟩
      rw [g3]
      unfold lnX
      constructor
      · intro w
        refine Or.inr ⟨rfl, ?_⟩
        by_cases c1 : t2 0 = 0
        · exact Or.inl c1
        · refine Or.inr (Classical.byContradiction (fun c2 => w ⟨fun j _ hj => ?_, by omega⟩))
          have := a1 j hj; omega
      · intro w ⟨q1, q2⟩
        rcases w with ⟨w, -⟩ | ⟨-, w | w⟩
        · cases w
        · omega
        · rcases a2 with e | ⟨k, k1, k2⟩
          · omega
          · have := q1 k (by omega) k1; omega
    by_cases hv : v = 0
    · rw [if_pos hv, if_pos rfl, note0 True trivial, xb_some]
      exact ⟨True, rfl, fun c o hq hI => ⟨fun _ => (hX c o hq hI).mp hv, fun _ => trivial⟩⟩
    · rw [if_neg hv, if_neg (by decide), non0 False (fun w => w)]
      exact ⟨False, rfl, fun c o hq hI => ⟨fun w => w.elim, fun w => hv ((hX c o hq hI).mpr w)⟩⟩
