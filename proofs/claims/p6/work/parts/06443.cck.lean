/-! the class: what is told, and a line is looked at -/
def cS (b : Nat) (t : Nat → Int) (h : yH) : Prop := h b 0 = t 0 ∧ h b 1 = t 1 ∧ h b 2 = t 2 ∧ h b 3 = t 3 ∧ h b 4 = t 4 ∧ h b 6 = t 5 ∧ h b 10 = t 6 ∧ h b 14 = t 49 ∧ (∀ i, i < 12 → h (b + 1) i = t (7 + i)) ∧
  (∀ k : Nat, (k : Int) < t 5 → h (b + 2) k = t (19 + 3 * k) ∧ h (b + 3) k = t (20 + 3 * k) ∧ h (b + 4) k = t (21 + 3 * k)) ∧
  (∀ k : Nat, (k : Int) < t 6 → h (b + 5) k = t (31 + 3 * k) ∧ h (b + 6) k = t (32 + 3 * k) ∧ h (b + 7) k = t (33 + 3 * k))
def cD (b : Nat) (t : Nat → Int) (h : yH) : Prop := h b 0 = t 0 ∧ ∀ k : Nat, (k : Int) < t 0 → h (b + 1) k = t (1 + 4 * k) ∧ h (b + 2) (3 * k) = t (2 + 4 * k) ∧ h (b + 2) (3 * k + 1) = t (3 + 4 * k) ∧ h (b + 2) (3 * k + 2) = t (4 + 4 * k)
def cQ (b : Nat) (t : Nat → Int) (h : yH) : Prop := h b 0 = t 0 ∧ h b 3 = t 1 ∧ (∀ k : Nat, (k : Int) < t 0 → h (b + 1) k = t (2 + 2 * k) ∧ h (b + 2) k = t (3 + 2 * k)) ∧ (∀ k : Nat, (k : Int) < t 1 → h (b + 3) k = t (20 + 2 * k) ∧ h (b + 4) k = t (21 + 2 * k))
def cR (of : Nat) (t : Nat → Int) (h : yH) : Prop := (of = 0 → cS 90 t h) ∧ (of = 1 → cD 100 t h) ∧ (of = 2 → cQ 110 t h)
theorem cS.fr {b : Nat} {t : Nat → Int} {h h2 : yH} (hs : cS b t h) (hf : ∀ a j, b ≤ a → a ≤ b + 7 → h2 a j = h a j) : cS b t h2 := by
  obtain ⟨h0, h1, h2', h3, h4, h5, h6, h7, h8, h9, h10⟩ := hs
  refine ⟨by rw [hf _ _ (by omega) (by omega)]; exact h0, by rw [hf _ _ (by omega) (by omega)]; exact h1, by rw [hf _ _ (by omega) (by omega)]; exact h2', by rw [hf _ _ (by omega) (by omega)]; exact h3, by rw [hf _ _ (by omega) (by omega)]; exact h4, by rw [hf _ _ (by omega) (by omega)]; exact h5, by rw [hf _ _ (by omega) (by omega)]; exact h6, by rw [hf _ _ (by omega) (by omega)]; exact h7, fun i hi => by rw [hf _ _ (by omega) (by omega)]; exact h8 i hi, fun k hk => ?_, fun k hk => ?_⟩
  · rw [hf _ _ (by omega) (by omega), hf _ _ (by omega) (by omega), hf _ _ (by omega) (by omega)]
    exact h9 k hk
  · rw [hf _ _ (by omega) (by omega), hf _ _ (by omega) (by omega), hf _ _ (by omega) (by omega)]
    exact h10 k hk
theorem cD.fr {b : Nat} {t : Nat → Int} {h h2 : yH} (hs : cD b t h) (hf : ∀ a j, b ≤ a → a ≤ b + 2 → h2 a j = h a j) : cD b t h2 := by
  obtain ⟨h0, h1⟩ := hs
  refine ⟨by rw [hf _ _ (by omega) (by omega)]; exact h0, fun k hk => ?_⟩
  rw [hf _ _ (by omega) (by omega), hf _ (3 * k) (by omega) (by omega), hf _ (3 * k + 1) (by omega) (by omega), hf _ (3 * k + 2) (by omega) (by omega)]
  exact h1 k hk
theorem cQ.fr {b : Nat} {t : Nat → Int} {h h2 : yH} (hs : cQ b t h) (hf : ∀ a j, b ≤ a → a ≤ b + 4 → h2 a j = h a j) : cQ b t h2 := by
  obtain ⟨h0, h1, h2', h3⟩ := hs
  refine ⟨by rw [hf _ _ (by omega) (by omega)]; exact h0, by rw [hf _ _ (by omega) (by omega)]; exact h1, fun k hk => ?_, fun k hk => ?_⟩
  · rw [hf _ _ (by omega) (by omega), hf _ _ (by omega) (by omega)]
    exact h2' k hk
  · rw [hf _ _ (by omega) (by omega), hf _ _ (by omega) (by omega)]
    exact h3 k hk
theorem cR.fr {of : Nat} {t : Nat → Int} {h h2 : yH} (hs : cR of t h) (hf : ∀ a j, 90 ≤ a → a ≤ 114 → h2 a j = h a j) : cR of t h2 :=
  ⟨fun e => (hs.1 e).fr (fun a j w1 w2 => hf a j (by omega) (by omega)), fun e => (hs.2.1 e).fr (fun a j w1 w2 => hf a j (by omega) (by omega)), fun e => (hs.2.2 e).fr (fun a j w1 w2 => hf a j (by omega) (by omega))⟩
theorem many_e {n of ln : Nat} {t : Nat → Int} {h : yH} (hof : of ≤ 2) (hi : lnIn of ln) (hP : cP h) (hr : cR of t h) (hW : tWf of t) : ∃ v, f_X4_isOneTooMany n [80, (ln : Int)] h = some (v, h) ∧ (v ≠ 0 ↔ lnAdds ln ∧ t (lnC ln) = lnM ln) := by
  have hln := lnIn_j hof hi
  rw [e_X4_isOneTooMany]
  unfold lnAdds lnC lnM
  by_cases c4 : ln = 4
  · subst c4
    have hS := hr.1 (by omega)
    have hw := hW.1 (by omega)
    obtain ⟨-, -, -, -, -, e5, -⟩ := hS
    obtain ⟨-, -, -, -, -, b5, -⟩ := hw
    rw [if_pos (by decide), xg_pos (hP.p (by decide)), e5]
    by_cases c : t 5 < 4
    · rw [if_pos c]
      exact ⟨0, rfl, fun w => absurd rfl w, fun w => by have := w.2; simp at this; omega⟩
    · rw [if_neg c]
      exact ⟨1, rfl, fun w => ⟨by omega, by simp; omega⟩, fun w => by decide⟩
  · rw [if_neg (show ¬ (ln : Int) = 4 by omega)]
    by_cases c5 : ln = 5
    · subst c5
      have hS := hr.1 (by omega)
      have hw := hW.1 (by omega)
      obtain ⟨-, -, -, -, -, -, e6, -⟩ := hS
      obtain ⟨-, -, -, -, -, -, b6, -⟩ := hw
      rw [if_pos (by decide), xg_pos (hP.p (by decide)), e6]
      by_cases c : t 6 < 6
      · rw [if_pos c]
        exact ⟨0, rfl, fun w => absurd rfl w, fun w => by have := w.2; simp at this; omega⟩
      · rw [if_neg c]
        exact ⟨1, rfl, fun w => ⟨by omega, by simp; omega⟩, fun w => by decide⟩
    · rw [if_neg (show ¬ (ln : Int) = 5 by omega)]
      by_cases c13 : ln = 13
      · subst c13
        have hS := hr.2.2 (by omega)
        have hw := hW.2.2 (by omega)
        obtain ⟨e0, -⟩ := hS
        obtain ⟨b0, -⟩ := hw
        rw [if_pos (by decide), xg_pos (hP.p (by decide)), e0]
        by_cases c : t 0 < 9
        · rw [if_pos c]
          exact ⟨0, rfl, fun w => absurd rfl w, fun w => by have := w.2; simp at this; omega⟩
        · rw [if_neg c]
          exact ⟨1, rfl, fun w => ⟨by omega, by simp; omega⟩, fun w => by decide⟩
      · rw [if_neg (show ¬ (ln : Int) = 13 by omega)]
        by_cases c14 : ln = 14
        · subst c14
          have hS := hr.2.2 (by omega)
          have hw := hW.2.2 (by omega)
          obtain ⟨-, e1, -⟩ := hS
          obtain ⟨-, b1, -⟩ := hw
          rw [if_pos (by decide), xg_pos (hP.p (by decide)), e1]
          by_cases c : t 1 < 16
          · rw [if_pos c]
            exact ⟨0, rfl, fun w => absurd rfl w, fun w => by have := w.2; simp at this; omega⟩
          · rw [if_neg c]
            exact ⟨1, rfl, fun w => ⟨by omega, by simp; omega⟩, fun w => by decide⟩
        · rw [if_neg (show ¬ (ln : Int) = 14 by omega)]
          by_cases c7 : ln < 7
          · rw [if_pos (by omega)]
            exact ⟨0, rfl, fun w => absurd rfl w, fun w => by have := w.1; omega⟩
          · have hS := hr.2.1 (by omega)
            have hw := hW.2.1 (by omega)
            obtain ⟨e0, -⟩ := hS
            obtain ⟨b0, -⟩ := hw
            rw [if_neg (by omega), if_neg (by omega), xg_pos (hP.p (by decide)), e0, if_neg c4, if_neg c5, if_neg c14, if_neg c4, if_neg c5, if_neg c13, if_neg c14]
            by_cases c : t 0 < 30
            · rw [if_pos c]
              exact ⟨0, rfl, fun w => absurd rfl w, fun w => by have := w.2; omega⟩
            · rw [if_neg c]
              exact ⟨1, rfl, fun w => ⟨by omega, by omega⟩, fun w => by decide⟩
theorem nt_iff {q : Int × Int} {c c2 : Prop} {dc : Decidable c} {dc2 : Decidable c2} {f p : Int} (h : c ↔ c2) : nt q c f p = nt q c2 f p := by
  by_cases hc : c
  · by_cases h0 : q.1 = 0
    · rw [ntt h0 hc, ntt h0 (h.mp hc)]
    · rw [ntn h0, ntn h0]
  · rw [ntf hc, ntf (fun w => hc (h.mpr w))]
theorem nt_nt {q : Int × Int} {c c2 : Prop} {dc : Decidable c} {dc2 : Decidable c2} {dc3 : Decidable (c ∨ c2)} {f p : Int} (hf : f ≠ 0) : nt (nt q c f p) c2 f p = nt q (c ∨ c2) f p := by
  by_cases h0 : q.1 = 0
  · by_cases hc : c
    · rw [ntt h0 hc, ntt h0 (Or.inl hc), ntn (q := (f, p)) hf]
    · rw [ntf hc]
      exact nt_iff ⟨Or.inr, fun w => w.resolve_left hc⟩
  · rw [ntn h0, ntn h0, ntn h0]
/-- the bounds alone -/
noncomputable def ntB (ln : Nat) (v p : Nat → Int) (q : Int × Int) : Nat → Int × Int
  | 0 => q
  | i + 1 => @nt (ntB ln v p q i) (¬ (lnL ln i ≤ v i ∧ v i ≤ lnH ln i)) (Classical.propDecidable _) 2 (p i)
def lnXt (ln : Nat) (v : Nat → Int) : Prop := (ln = 13 ∧ v 1 < v 0) ∨ (ln = 14 ∧ v 1 = v 0)
theorem lnN_b : ∀ ln : Fin 15, (zTv 1).getD ln.val 0 = (lnN ln.val : Int) ∧ lnN ln.val ≤ 5 := by decide +kernel
theorem ntB_L {ln : Nat} {v p : Nat → Int} {q : Int × Int} : ntL ln v p q (lnN ln) = @nt (ntB ln v p q (lnN ln)) (lnXt ln v) (Classical.propDecidable _) 2 (p 1) := by
  by_cases c : ln = 13 ∨ ln = 14
  · have hN : lnN ln = 2 := by
      rcases c with rfl | rfl
      · decide +kernel
      · decide +kernel
    rw [hN]
    have e1 : ntL ln v p q 1 = ntB ln v p q 1 := by
      show @nt q (lnB ln v 0) (Classical.propDecidable _) 2 (p 0) = @nt q (¬ (lnL ln 0 ≤ v 0 ∧ v 0 ≤ lnH ln 0)) (Classical.propDecidable _) 2 (p 0)
      refine nt_iff ⟨fun w => ?_, fun w => Or.inl w⟩
      rcases w with w | w | w
      · exact w
      · exact absurd w.2.1 (by decide)
      · exact absurd w.2.1 (by decide)
    show @nt (ntL ln v p q 1) (lnB ln v 1) (Classical.propDecidable _) 2 (p 1) = @nt (@nt (ntB ln v p q 1) (¬ (lnL ln 1 ≤ v 1 ∧ v 1 ≤ lnH ln 1)) (Classical.propDecidable _) 2 (p 1)) (lnXt ln v) (Classical.propDecidable _) 2 (p 1)
    rw [e1, nt_nt (dc3 := Classical.propDecidable _) (by decide)]
    exact nt_iff ⟨fun w => by unfold lnB at w; unfold lnXt; omega, fun w => by unfold lnB; unfold lnXt at w; omega⟩
  · have : ∀ k, ntL ln v p q k = ntB ln v p q k := by
      intro k
      induction k with
      | zero => rfl
      | succ k ih =>
        unfold ntL ntB
        rw [ih]
        exact nt_iff ⟨fun w => by unfold lnB at w; omega, fun w => Or.inl w⟩
    rw [this, ntf (fun w => by unfold lnXt at w; omega)]
theorem check_132 {n : Nat} {q : Int × Int} {g : yH} {x1 x2 x3 y0 : Int} {c : Prop} {dc : Decidable c} (hP : cP g) (hc : c ↔ ¬ (x3 = 0 ∧ y0 = 0)) : xq_X4_checkLine_132 n (xl_X4_checkLine n) [80, x1, x2, x3, y0] (cN q g) = some (0, cN (nt q c 2 (g 121 1)) g) := by
  rw [e_X4_checkLine_132]
  have e121 : cN q g 121 1 = g 121 1 := cN_ne (by omega)
  by_cases w1 : x3 = 0
  · rw [if_pos w1]
    by_cases w2 : y0 = 0
    · rw [if_pos w2, ntf (fun w => hc.mp w ⟨w1, w2⟩)]
    · rw [if_neg w2, xg_pos ((cN_P hP).p (by decide)), e121, note_e (c := c) (by decide) (hc.mpr (fun w => w2 w.2)), xb_some]
  · rw [if_neg w1, xg_pos ((cN_P hP).p (by decide)), e121, note_e (c := c) (by decide) (hc.mpr (fun w => w1 w.1)), xb_some]
theorem check_l {ln : Nat} {st : Int} {q : Int × Int} {g : yH} (hl : ln < 15) (hP : cP g) : ∀ (m i n : Nat), lnN ln - i = m → i ≤ lnN ln → m < n → xl_X4_checkLine n 16 [80, (ln : Int), st, (i : Int)] (cN (ntB ln (g 120) (g 121) q i) g) = some (0, cN (ntL ln (g 120) (g 121) q (lnN ln)) g) := by
  obtain ⟨b1, b2⟩ := lnN_b ⟨ln, hl⟩
  simp only at b1 b2
  have z : ((ln : Int) + 0).toNat = ln := by omega
  intro m
  induction m with
  | zero =>
    intro i n h1 h2 h3
    obtain ⟨n, rfl⟩ : ∃ n', n = n' + 1 := ⟨n - 1, by omega⟩
    have hi : i = lnN ln := by omega
    subst hi
    generalize hQ : ntB ln (g 120) (g 121) q (lnN ln) = Q
    have e1 : cN Q g 120 1 = g 120 1 := cN_ne (by omega)
    have e0 : cN Q g 120 0 = g 120 0 := cN_ne (by omega)
    rw [e_X4_checkLine_16, xg_pos (by omega), z, b1, if_neg (by omega), ntB_L, hQ]
    by_cases c13 : ln = 13
    · rw [if_pos (by omega), xg_pos ((cN_P hP).p (by decide)), xg_pos ((cN_P hP).p (by decide)), e1, e0]
      by_cases cc : g 120 1 < g 120 0
      · rw [if_pos cc, e_X4_checkLine_105, if_neg (by omega)]
        exact @check_132 _ _ _ _ _ _ _ _ (Classical.propDecidable _) hP ⟨fun _ w => by omega, fun _ => Or.inl ⟨c13, cc⟩⟩
      · rw [if_neg cc, e_X4_checkLine_105, if_neg (by omega)]
        exact @check_132 _ _ _ _ _ _ _ _ (Classical.propDecidable _) hP ⟨fun w => by unfold lnXt at w; omega, fun w => absurd ⟨rfl, rfl⟩ w⟩
    · rw [if_neg (by omega), e_X4_checkLine_105]
      by_cases c14 : ln = 14
      · rw [if_pos (by omega), xg_pos ((cN_P hP).p (by decide)), xg_pos ((cN_P hP).p (by decide)), e1, e0]
        by_cases cc : g 120 1 = g 120 0
        · rw [if_pos cc]
          exact @check_132 _ _ _ _ _ _ _ _ (Classical.propDecidable _) hP ⟨fun _ w => by omega, fun _ => Or.inr ⟨c14, cc⟩⟩
        · rw [if_neg cc]
          exact @check_132 _ _ _ _ _ _ _ _ (Classical.propDecidable _) hP ⟨fun w => by unfold lnXt at w; omega, fun w => absurd ⟨rfl, rfl⟩ w⟩
      · rw [if_neg (by omega)]
        exact @check_132 _ _ _ _ _ _ _ _ (Classical.propDecidable _) hP ⟨fun w => by unfold lnXt at w; omega, fun w => absurd ⟨rfl, rfl⟩ w⟩
  | succ m ih =>
    intro i n h1 h2 h3
    obtain ⟨n, rfl⟩ : ∃ n', n = n' + 1 := ⟨n - 1, by omega⟩
    have ih2 := ih (i + 1) n (by omega) (by omega) (by omega)
    have hnx : ntB ln (g 120) (g 121) q (i + 1) = @nt (ntB ln (g 120) (g 121) q i) (¬ (lnL ln i ≤ g 120 i ∧ g 120 i ≤ lnH ln i)) (Classical.propDecidable _) 2 (g 121 i) := rfl
    rw [hnx] at ih2
    clear hnx ih
    generalize hQ : ntB ln (g 120) (g 121) q i = Q at *
    have e1 : cN Q g 120 i = g 120 i := cN_ne (by omega)
    have e0 : cN Q g 121 i = g 121 i := cN_ne (by omega)
    have z5 : (5 * (ln : Int) + (i : Int) + 0).toNat = 5 * ln + i := by omega
    have zi : (i : Int) + 1 = ((i + 1 : Nat) : Int) := by omega
    rw [e_X4_checkLine_16, xg_pos (by omega), z, b1, if_pos (by omega), xg_pos (by omega), xg_pos (by omega), xg_pos ((cN_P hP).p (by decide)), xg_pos (by omega), xg_pos (by omega), z5, Int.toNat_natCast, e1, e0, zi]
    have hL : (zTv 2).getD (5 * ln + i) 0 = lnL ln i := rfl
    have hH : (zTv 3).getD (5 * ln + i) 0 = lnH ln i := rfl
    rw [hL, hH]
    by_cases cL : g 120 i < lnL ln i
    · rw [if_pos cL, xg_pos ((cN_P hP).p (by decide)), xg_pos (by omega), @note_e _ _ _ _ _ (Classical.propDecidable _) _ (by decide) (show ¬ (lnL ln i ≤ g 120 i ∧ g 120 i ≤ lnH ln i) by omega), xb_some, xg_pos (by omega)]
      exact ih2
    · rw [if_neg cL, xg_pos ((cN_P hP).p (by decide)), xg_pos (by omega), xg_pos (by omega)]
      by_cases cH : lnH ln i < g 120 i
      · rw [if_pos cH, xg_pos ((cN_P hP).p (by decide)), xg_pos (by omega), @note_e _ _ _ _ _ (Classical.propDecidable _) _ (by decide) (show ¬ (lnL ln i ≤ g 120 i ∧ g 120 i ≤ lnH ln i) by omega), xb_some, xg_pos (by omega)]
        exact ih2
      · rw [if_neg cH, xg_pos (by omega)]
        rw [ntf (by omega)] at ih2
        exact ih2
/-- checkLine: the first fault of a line is noted -/
theorem check_e {n of ln : Nat} {t : Nat → Int} {st : Int} {q : Int × Int} {g : yH} (hof : of ≤ 2) (hi : lnIn of ln) (hl : ln < 15) (hP : cP g) (hr : cR of t g) (hW : tWf of t) (hn : 10 ≤ n) : f_X4_checkLine n [80, (ln : Int), st] (cN q g) = some (0, cN (ntL ln (g 120) (g 121) (@nt q (lnAdds ln ∧ t (lnC ln) = lnM ln) (Classical.propDecidable _) 3 st) (lnN ln)) g) := by
  have hb := (lnN_b ⟨ln, hl⟩).2
  simp only at hb
  obtain ⟨v, g1, g2⟩ := many_e (n := n) (h := cN q g) hof hi (cN_P hP) (hr.fr (fun a j w1 w2 => cN_ne (by omega))) hW
  rw [e_X4_checkLine, g1, xb_some]
  by_cases hv : v = 0
  · rw [if_pos hv, ntf (fun w => absurd hv (g2.mpr w))]
    exact check_l hl hP (lnN ln) 0 n rfl (by omega) (by omega)
  · rw [if_neg hv, @note_e _ _ _ _ _ (Classical.propDecidable _) _ (by decide) (g2.mp hv), xb_some]
    exact check_l hl hP (lnN ln) 0 n rfl (by omega) (by omega)
