/-! the class: a line is read -/
theorem tkN_m {u : Nat → Int} {N x : Nat} (hx : x ≤ N) : ∀ i, tkN u N x i ≤ N := by
  intro i
  induction i with
  | zero => exact hx
  | succ i ih => exact tkE_n ih
theorem tK_cg {t : Nat → Int} {ct from_ wide most : Nat} {v w : Nat → Int} (h : ∀ i, i < wide → v i = w i) : tK t ct from_ wide most v = tK t ct from_ wide most w := by
  unfold tK
  split
  · rfl
  · funext i
    by_cases h1 : i = ct
    · rw [if_pos h1, if_pos h1]
    · rw [if_neg h1, if_neg h1]
      by_cases h2 : from_ + wide * (t ct).toNat ≤ i ∧ i < from_ + wide * (t ct).toNat + wide
      · rw [if_pos h2, if_pos h2, h _ (by omega)]
      · rw [if_neg h2, if_neg h2]
theorem lnN_v : lnN 0 = 2 ∧ lnN 1 = 2 ∧ lnN 2 = 1 ∧ lnN 3 = 5 ∧ lnN 4 = 3 ∧ lnN 5 = 3 ∧ lnN 6 = 1 ∧ lnN 13 = 2 ∧ lnN 14 = 2 := by decide +kernel
theorem lnT_congr {ln : Nat} {v w t : Nat → Int} (h : ∀ i, i < lnN ln → v i = w i) : lnT ln v t = lnT ln w t := by
  obtain ⟨n0, n1, n2, n3, n4, n5, n6, n13, n14⟩ := lnN_v
  unfold lnT
  by_cases c0 : ln = 0
  · subst c0; rw [n0] at h
    rw [if_pos rfl, if_pos rfl, h 0 (by decide), h 1 (by decide)]
  · rw [if_neg c0, if_neg c0]
    by_cases c1 : ln = 1
    · subst c1; rw [n1] at h
      rw [if_pos rfl, if_pos rfl, h 0 (by decide), h 1 (by decide)]
    · rw [if_neg c1, if_neg c1]
      by_cases c2 : ln = 2
      · subst c2; rw [n2] at h
        rw [if_pos rfl, if_pos rfl, h 0 (by decide)]
      · rw [if_neg c2, if_neg c2]
        by_cases c3 : ln = 3
        · subst c3; rw [n3] at h
          rw [if_pos rfl, if_pos rfl, h 0 (by decide), h 1 (by decide), h 2 (by decide), h 3 (by decide), h 4 (by decide)]
        · rw [if_neg c3, if_neg c3]
          by_cases c4 : ln = 4
          · subst c4; rw [n4] at h
            rw [if_pos rfl, if_pos rfl]
            exact tK_cg h
          · rw [if_neg c4, if_neg c4]
            by_cases c5 : ln = 5
            · subst c5; rw [n5] at h
              rw [if_pos rfl, if_pos rfl]
              exact tK_cg h
            · rw [if_neg c5, if_neg c5]
              by_cases c6 : ln = 6
              · subst c6; rw [n6] at h
                rw [if_pos rfl, if_pos rfl, h 0 (by decide)]
              · rw [if_neg c6, if_neg c6]
                by_cases c13 : ln = 13
                · subst c13; rw [n13] at h
                  rw [if_pos rfl, if_pos rfl]
                  exact tK_cg h
                · rw [if_neg c13, if_neg c13]
                  by_cases c14 : ln = 14
                  · subst c14; rw [n14] at h
                    rw [if_pos rfl, if_pos rfl]
                    exact tK_cg h
                  · rw [if_neg c14, if_neg c14]
                    refine tK_cg (fun i _ => ?_)
                    by_cases e0 : i = 0
                    · rw [if_pos e0, if_pos e0]
                    · rw [if_neg e0, if_neg e0]
                      by_cases e1 : i ≤ lnN ln
                      · rw [if_pos e1, if_pos e1, h _ (by omega)]
                      · rw [if_neg e1, if_neg e1]
theorem lnB_congr {ln i : Nat} {v w : Nat → Int} (h : ∀ j, j ≤ i → v j = w j) : lnB ln v i ↔ lnB ln w i := by
  unfold lnB
  by_cases c : i = 1
  · subst c
    rw [h 1 (by omega), h 0 (by omega)]
  · rw [h i (by omega)]
    constructor
    · intro w1
      rcases w1 with w1 | w1 | w1
      · exact Or.inl w1
      · exact absurd w1.2.1 c
      · exact absurd w1.2.1 c
    · intro w1
      rcases w1 with w1 | w1 | w1
      · exact Or.inl w1
      · exact absurd w1.2.1 c
      · exact absurd w1.2.1 c
theorem ntL_congr {ln : Nat} {v w p r : Nat → Int} {q : Int × Int} : ∀ {k : Nat}, (∀ i, i < k → v i = w i ∧ p i = r i) → ntL ln v p q k = ntL ln w r q k := by
  intro k
  induction k with
  | zero => intro _; rfl
  | succ k ih =>
    intro h
    unfold ntL
    rw [ih (fun i hi => h i (by omega)), (h k (by omega)).2]
    exact nt_iff (lnB_congr (fun j hj => (h j (by omega)).1))
/-- what a reader holds, whatever is noted -/
def cH (of : Nat) (q : Int × Int) (t : Nat → Int) (h : yH) : Prop := h 80 3 = q.1 ∧ h 80 4 = q.2 ∧ ∃ t2, cR of t2 h ∧ tWf of t2 ∧ (q.1 = 0 → t2 = t)
theorem cH.fr {of : Nat} {q : Int × Int} {t : Nat → Int} {h h2 : yH} (hh : cH of q t h) (h3 : h2 80 3 = h 80 3) (h4 : h2 80 4 = h 80 4) (hf : ∀ a j, 90 ≤ a → a ≤ 114 → h2 a j = h a j) : cH of q t h2 := by
  obtain ⟨e1, e2, t2, e3, e4, e5⟩ := hh
  exact ⟨by rw [h3]; exact e1, by rw [h4]; exact e2, t2, e3.fr hf, e4, e5⟩
theorem cTk_ne {u : Nat → Int} {N x : Nat} {h : yH} {a j : Nat} (w : ¬ (a = 80 ∧ (j = 7 ∨ j = 8 ∨ j = 9))) : cTk u N x h a j = h a j := by
  unfold cTk
  rw [zup_ne (by omega), zup_ne (by omega), zup_ne (by omega)]
theorem cTk_7 {u : Nat → Int} {N x : Nat} {h : yH} : cTk u N x h 80 7 = tc (tkK u N x) := by
  unfold cTk
  rw [zup_ne (by omega), zup_at]
theorem cTk_8 {u : Nat → Int} {N x : Nat} {h : yH} : cTk u N x h 80 8 = (tkS u N x : Int) := by
  unfold cTk
  rw [zup_ne (by omega), zup_ne (by omega), zup_at]
theorem cTk_9 {u : Nat → Int} {N x : Nat} {h : yH} : cTk u N x h 80 9 = (tkE u N x : Int) := by
  unfold cTk
  rw [zup_at]
theorem break_e {n : Nat} {h : yH} : f_X4_breakOff n [80] h = some (0, cN (1, h 80 8) h) := e_X4_breakOff
theorem cTk_H {u : Nat → Int} {N x of : Nat} {q : Int × Int} {t : Nat → Int} {h : yH} (hh : cH of q t h) : cH of q t (cTk u N x h) :=
  hh.fr (cTk_ne (by omega)) (cTk_ne (by omega)) (fun a j _ _ => cTk_ne (by omega))
/-- a break -/
theorem cN_H {of : Nat} {q q2 : Int × Int} {t : Nat → Int} {h : yH} (hh : cH of q t h) (h1 : q2.1 ≠ 0) : cH of q2 t (cN q2 h) := by
  obtain ⟨e1, e2, t2, e3, e4, e5⟩ := hh
  exact ⟨cN_3, cN_4, t2, e3.fr (fun a j _ _ => cN_ne (by omega)), e4, fun w => absurd w h1⟩
def cX (h h2 : yH) : Prop := ∀ a j, ¬ (80 ≤ a ∧ a ≤ 121) → h2 a j = h a j
/-- how a line ends: 0 a break at a token, 1 to its end -/
def cE (u : Nat → Int) (N of x ln : Nat) (q : Int × Int) (t : Nat → Int) (v : Int) (h2 : yH) : Prop :=
  (v = 0 ∧ ∃ k, k < lnN ln ∧ tkK u N (tkN u N x (k + 1)) ≠ 3 ∧ (∀ j, j < k → tkK u N (tkN u N x (j + 1)) = 3) ∧ cH of (1, (tkS u N (tkN u N x (k + 1)) : Nat)) t h2) ∨
  ((∀ j, j < lnN ln → tkK u N (tkN u N x (j + 1)) = 3) ∧ ((v = 0 ∧ tkK u N (tkN u N x (lnN ln + 1)) ≠ 4 ∧ cH of (1, (tkS u N (tkN u N x (lnN ln + 1)) : Nat)) t h2) ∨
    (v = 1 ∧ tkK u N (tkN u N x (lnN ln + 1)) = 4 ∧ h2 80 9 = (tkE u N (tkN u N x (lnN ln + 1)) : Nat) ∧
      cH of (ntL ln (fun i => tkV u N (tkN u N x (i + 1))) (fun i => (tkS u N (tkN u N x (i + 1)) : Nat)) (@nt q (lnAdds ln ∧ t (lnC ln) = lnM ln) (Classical.propDecidable _) 3 (tkS u N x : Nat)) (lnN ln)) (lnT ln (fun i => tkV u N (tkN u N x (i + 1))) t) h2)))
theorem tc_2 {k : Nat} (hk : k ≤ 4) : tc k = 2 ↔ k = 3 := by
  unfold tc
  split
  · omega
  · split <;> omega
theorem tc_3 {k : Nat} (hk : k ≤ 4) : tc k = 3 ↔ k = 4 := by
  unfold tc
  split
  · omega
  · split <;> omega
theorem tkK_4 {u : Nat → Int} {N x : Nat} : tkK u N x ≤ 4 := by
  unfold tkK
  split
  · omega
  · split
    · omega
    · split
      · split <;> omega
      · split <;> omega
theorem line_l {u : Nat → Int} {N of x ln : Nat} {q : Int × Int} {t : Nat → Int} (hof : of ≤ 2) (hi : lnIn of ln) (hl : ln < 15) (hx : x ≤ N) : ∀ (m i n : Nat) (h : yH), lnN ln - i = m → i ≤ lnN ln → m + 1500 < n → cC u N h → h 80 9 = (tkN u N x (i + 1) : Nat) → cH of q t h → (∀ j, j < i → tkK u N (tkN u N x (j + 1)) = 3 ∧ h 120 j = tkV u N (tkN u N x (j + 1)) ∧ h 121 j = (tkS u N (tkN u N x (j + 1)) : Nat)) →
    ∃ v h2, xl_X4_readLine n 53 [80, 4, (of : Int), (tkS u N x : Nat), (ln : Int), (i : Int)] h = some (v, h2) ∧ cC u N h2 ∧ cX h h2 ∧ cE u N of x ln q t v h2 := by
  obtain ⟨b1, b2⟩ := lnN_b ⟨ln, hl⟩
  simp only at b1 b2
  have z : ((ln : Int) + 0).toNat = ln := by omega
  intro m
  induction m with
  | zero =>
    intro i n h h1 h2 h3 hc h9 hH hj
    obtain ⟨n, rfl⟩ : ∃ n', n = n' + 1 := ⟨n - 1, by omega⟩
    have hii : i = lnN ln := by omega
    subst hii
    rw [e_X4_readLine_53, xg_pos (by omega), z, b1, if_neg (by omega), nextToken_e hc h9 (tkN_m hx _) (by omega), xb_some, cTk_7]
    have hc1 := cTk_C (x := tkN u N x (lnN ln + 1)) hc
    have hH1 := cTk_H (u := u) (N := N) (x := tkN u N x (lnN ln + 1)) hH
    by_cases h4 : tkK u N (tkN u N x (lnN ln + 1)) = 4
    · rw [if_pos ((tc_3 tkK_4).mpr h4)]
      generalize hg : cTk u N (tkN u N x (lnN ln + 1)) h = g at *
      have g9 : g 80 9 = (tkE u N (tkN u N x (lnN ln + 1)) : Nat) := by rw [← hg]; exact cTk_9
      have gx : cX h g := fun a j w => by rw [← hg]; exact cTk_ne (by omega)
      obtain ⟨e3, e4, t2, er, ew, et⟩ := hH1
      have eg : cN q g = g := cN_self e3 e4
      have ck := check_e (n := n) (st := (tkS u N x : Nat)) (q := q) hof hi hl hc1.2.2.2 er ew (by omega)
      rw [eg] at ck
      rw [ck, xb_some, cN_3]
      have v120 : ∀ j, j < lnN ln → g 120 j = tkV u N (tkN u N x (j + 1)) := fun j hjj => by rw [← hg, cTk_ne (by omega)]; exact (hj j hjj).2.1
      have v121 : ∀ j, j < lnN ln → g 121 j = (tkS u N (tkN u N x (j + 1)) : Nat) := fun j hjj => by rw [← hg, cTk_ne (by omega)]; exact (hj j hjj).2.2
      have eq1 : ntL ln (g 120) (g 121) (@nt q (lnAdds ln ∧ t2 (lnC ln) = lnM ln) (Classical.propDecidable _) 3 (tkS u N x : Nat)) (lnN ln) = ntL ln (fun i => tkV u N (tkN u N x (i + 1))) (fun i => (tkS u N (tkN u N x (i + 1)) : Nat)) (@nt q (lnAdds ln ∧ t (lnC ln) = lnM ln) (Classical.propDecidable _) 3 (tkS u N x : Nat)) (lnN ln) := by
        rw [ntL_congr (w := fun i => tkV u N (tkN u N x (i + 1))) (r := fun i => (tkS u N (tkN u N x (i + 1)) : Nat)) (fun i hi' => ⟨v120 i hi', v121 i hi'⟩)]
        by_cases hq : q.1 = 0
        · rw [et hq]
        · rw [ntn hq, ntn hq]
      rw [eq1]
      generalize hQ : ntL ln (fun i => tkV u N (tkN u N x (i + 1))) (fun i => (tkS u N (tkN u N x (i + 1)) : Nat)) (@nt q (lnAdds ln ∧ t (lnC ln) = lnM ln) (Classical.propDecidable _) 3 (tkS u N x : Nat)) (lnN ln) = Q
      by_cases hq0 : Q.1 = 0
      · rw [if_pos hq0]
        have k0 : (ntL ln (fun i => tkV u N (tkN u N x (i + 1))) (fun i => (tkS u N (tkN u N x (i + 1)) : Nat)) (@nt q (lnAdds ln ∧ t (lnC ln) = lnM ln) (Classical.propDecidable _) 3 (tkS u N x : Nat)) (lnN ln)).1 = 0 := by rw [hQ]; exact hq0
        obtain ⟨k1, k2, k3⟩ := ntL_0 k0
        have hq : q.1 = 0 := by
          by_cases hq : q.1 = 0
          · exact hq
          · rw [ntn hq] at k1; exact absurd k1 hq
        have hM : ¬ (lnAdds ln ∧ t (lnC ln) = lnM ln) := by
          intro w
          rw [ntt hq w] at k1
          exact absurd k1 (show ¬ (3 : Int) = 0 by decide)
        have ett := et hq
        subst ett
        obtain ⟨h2, f1, f2, f3⟩ := take_e (n := n) (g := cN Q g) hof hi (cN_P hc1.2.2.2) (er.fr (fun a j _ _ => cN_ne (by omega))) ew hM (fun i hi' => by
          rw [lnB_congr (w := fun i => tkV u N (tkN u N x (i + 1))) (fun j hjj => by rw [cN_ne (by omega)]; exact v120 j (by omega))]
          exact k3 i hi') (by omega)
        rw [f1, xb_some]
        have f120 : lnT ln (cN Q g 120) t2 = lnT ln (fun i => tkV u N (tkN u N x (i + 1))) t2 := lnT_congr (fun i hi' => by rw [cN_ne (by omega)]; exact v120 i hi')
        rw [f120] at f2
        have fne : ∀ a j, ¬ cZ a j → ¬ (a = 80 ∧ (j = 3 ∨ j = 4)) → h2 a j = g a j := fun a j w1 w2 => by rw [f3 a j w1, cN_ne w2]
        refine ⟨1, h2, rfl, ?_, ?_, Or.inr ⟨fun j hjj => (hj j hjj).1, Or.inr ⟨rfl, h4, by rw [fne 80 9 (by unfold cZ; omega) (by omega)]; exact g9, ?_⟩⟩⟩
        · exact (cN_C hc1).fr (f3 4 1 (by unfold cZ; omega)) (fun i => f3 5 i (by unfold cZ; omega)) (fun a j w => f3 a j (cZ_F w))
        · intro a j w
          rw [fne a j (by unfold cZ; omega) (by omega)]
          exact gx a j w
        · rw [hQ]
          refine ⟨by rw [f3 80 3 (by unfold cZ; omega)]; exact cN_3, by rw [f3 80 4 (by unfold cZ; omega)]; exact cN_4, _, f2, ?_, fun _ => rfl⟩
          exact lnT_W (by have := lnIn_j hof hi; omega) ew k3 hM
      · rw [if_neg hq0]
        refine ⟨1, cN Q g, rfl, cN_C hc1, fun a j w => by rw [cN_ne (by omega)]; exact gx a j w, Or.inr ⟨fun j hjj => (hj j hjj).1, Or.inr ⟨rfl, h4, by rw [cN_ne (by omega)]; exact g9, ?_⟩⟩⟩
        rw [hQ]
        exact ⟨cN_3, cN_4, t2, er.fr (fun a j _ _ => cN_ne (by omega)), ew, fun w => absurd w hq0⟩
    · rw [if_neg (fun w => h4 ((tc_3 tkK_4).mp w)), break_e, xb_some, xg_pos (by decide), cTk_8]
      refine ⟨0, _, rfl, cN_C hc1, fun a j w => by rw [cN_ne (by omega), cTk_ne (by omega)], Or.inr ⟨fun j hjj => (hj j hjj).1, Or.inl ⟨rfl, h4, ?_⟩⟩⟩
      exact cN_H hH1 (show (1 : Int) ≠ 0 by decide)
  | succ m ih =>
    intro i n h h1 h2 h3 hc h9 hH hj
    obtain ⟨n, rfl⟩ : ∃ n', n = n' + 1 := ⟨n - 1, by omega⟩
    rw [e_X4_readLine_53, xg_pos (by omega), z, b1, if_pos (by omega), nextToken_e hc h9 (tkN_m hx _) (by omega), xb_some, cTk_7]
    have hc1 := cTk_C (x := tkN u N x (i + 1)) hc
    have hH1 := cTk_H (u := u) (N := N) (x := tkN u N x (i + 1)) hH
    by_cases hk : tkK u N (tkN u N x (i + 1)) = 3
    · rw [if_pos ((tc_2 tkK_4).mpr hk), xg_pos (hc1.2.2.2.p (by decide)), number_e hc1 cTk_8 cTk_9 hk (by omega), xb_some, xg_pos (by omega), xg_pos (hc1.2.2.2.p (by decide)), xg_pos (by omega), xg_pos (by omega), cTk_8, Int.toNat_natCast, show (i : Int) + 1 = ((i + 1 : Nat) : Int) by omega]
      generalize hg : cTk u N (tkN u N x (i + 1)) h = g at *
      have cf1 : ∀ a j, (a = 120 ∨ a = 121) → cF a j = false := fun a j w => by
        unfold cF
        rw [List.any_eq_false]
        intro p hp
        have : ∀ p ∈ cPL, p.1 ≠ 120 ∧ p.1 ≠ 121 := by decide +kernel
        have := this p hp
        simp
        omega
      have hc2 : cC u N (zup (zup g 120 i (tkV u N (tkN u N x (i + 1)))) 121 i (tkS u N (tkN u N x (i + 1)) : Nat)) := (hc1.up (by omega) (by decide) (cf1 _ _ (Or.inl rfl))).up (by omega) (by decide) (cf1 _ _ (Or.inr rfl))
      have g9 : g 80 9 = (tkE u N (tkN u N x (i + 1)) : Nat) := by rw [← hg]; exact cTk_9
      obtain ⟨v, h2', r1, r2, r3, r4⟩ := ih (i + 1) n _ (by omega) (by omega) (by omega) hc2 (by rw [zup_ne (by omega), zup_ne (by omega)]; exact g9) (hH1.fr (by rw [zup_ne (by omega), zup_ne (by omega)]) (by rw [zup_ne (by omega), zup_ne (by omega)]) (fun a j _ _ => by rw [zup_ne (by omega), zup_ne (by omega)])) (fun j hjj => by
        by_cases e : j = i
        · subst e
          exact ⟨hk, by rw [zup_ne (by omega), zup_at], by rw [zup_at]⟩
        · rw [zup_ne (by omega), zup_ne (by omega), zup_ne (by omega), zup_ne (by omega), ← hg, cTk_ne (by omega), cTk_ne (by omega)]
          exact hj j (by omega))
      refine ⟨v, h2', r1, r2, fun a j w => ?_, r4⟩
      rw [r3 a j w, zup_ne (by omega), zup_ne (by omega), ← hg, cTk_ne (by omega)]
    · rw [if_neg (fun w => hk ((tc_2 tkK_4).mp w)), break_e, xb_some, xg_pos (by decide), cTk_8]
      refine ⟨0, _, rfl, cN_C hc1, fun a j w => by rw [cN_ne (by omega), cTk_ne (by omega)], Or.inl ⟨rfl, i, by omega, hk, fun j hjj => (hj j hjj).1, ?_⟩⟩
      exact cN_H hH1 (show (1 : Int) ≠ 0 by decide)
