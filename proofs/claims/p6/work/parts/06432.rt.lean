/-! the reference: a text is read -/
/-- what is told ahead of all lines -/
def tI (of j : Nat) : Int := if of = 0 then (if j ≤ 1 then 6 else if j = 4 then 4 else if 7 ≤ j ∧ j < 19 then (if (j - 7) % 4 = 0 then 3 else if (j - 7) % 4 = 1 then 1 else if (j - 7) % 4 = 2 then 4 else 6) else 0) else 0
theorem tI_W {of : Nat} {t : Nat → Int} (hof : of ≤ 2) (ht : ∀ j, j < 121 → t j = tI of j) : tWf of t := by
  refine ⟨fun w => ?_, fun w => ?_, fun w => ?_⟩
  · subst w
    have e : ∀ j, j < 121 → t j = if j ≤ 1 then 6 else if j = 4 then 4 else if 7 ≤ j ∧ j < 19 then (if (j - 7) % 4 = 0 then 3 else if (j - 7) % 4 = 1 then 1 else if (j - 7) % 4 = 2 then 4 else 6) else 0 := fun j hj => by
      rw [ht j hj]
      unfold tI
      rw [if_pos rfl]
    refine ⟨by rw [e 0 (by decide)]; decide, by rw [e 1 (by decide)]; decide, by rw [e 2 (by decide)]; decide, by rw [e 3 (by decide)]; decide, by rw [e 4 (by decide)]; decide, by rw [e 5 (by decide)]; decide, by rw [e 6 (by decide)]; decide, by rw [e 49 (by decide)]; decide, fun c hc => ?_, fun s hs => ?_, fun b hb => ?_⟩
    · rcases (show c = 0 ∨ c = 1 ∨ c = 2 by omega) with rfl | rfl | rfl
      all_goals
        rw [e _ (by decide), e _ (by decide), e _ (by decide), e _ (by decide)]
        decide
    · have h5 : t 5 = 0 := by rw [e 5 (by decide)]; decide
      have z : ∀ j, 19 ≤ j → j < 121 → t j = 0 := fun j h1 h2 => by
        rw [e j h2, if_neg (by omega), if_neg (by omega), if_neg (by omega)]
      rw [z (19 + 3 * s) (by omega) (by omega), z (20 + 3 * s) (by omega) (by omega), z (21 + 3 * s) (by omega) (by omega), h5]
      omega
    · have z : ∀ j, 19 ≤ j → j < 121 → t j = 0 := fun j h1 h2 => by
        rw [e j h2, if_neg (by omega), if_neg (by omega), if_neg (by omega)]
      rw [z _ (by omega) (by omega), z _ (by omega) (by omega), z _ (by omega) (by omega)]
      omega
  · subst w
    have z : ∀ j, j < 121 → t j = 0 := fun j hj => by
      rw [ht j hj]
      rfl
    refine ⟨by rw [z 0 (by decide)]; decide, fun k hk => ?_⟩
    rw [z 0 (by decide), z _ (by omega), z _ (by omega), z _ (by omega), z _ (by omega)]
    exact ⟨fun w => by omega, fun _ => ⟨rfl, rfl, rfl, rfl⟩⟩
  · subst w
    have z : ∀ j, j < 121 → t j = 0 := fun j hj => by
      rw [ht j hj]
      rfl
    refine ⟨by rw [z 0 (by decide)]; decide, by rw [z 1 (by decide)]; decide, fun k hk => ?_, fun k hk => ?_⟩
    · rw [z 0 (by decide), z _ (by omega), z _ (by omega)]
      omega
    · rw [z 1 (by decide), z _ (by omega), z _ (by omega)]
      omega
theorem wrong_e {n of : Nat} {h : yH} (hof : of ≤ 2) (hp : rP h) (hW : tWf of (h 8)) : f_X12_isWrong n [35, (of : Int)] h = some (@ite Int (lnX of (h 8) (h 35 20) (h 35 21)) (Classical.propDecidable _) 1 0, h) := by
  have p18 : h 35 18 = 8 := hp.2.2.2.2.2.2.2.2.1
  rw [e_X12_isWrong]
  unfold lnX
  rcases (show of = 0 ∨ of = 1 ∨ of = 2 by omega) with rfl | rfl | rfl
  · obtain ⟨h0, h1, -⟩ := hW.1 rfl
    have b1 : 0 ≤ h 8 0 * h 8 1 := Int.mul_nonneg (by omega) (by omega)
    have b2 : h 8 0 * h 8 1 ≤ 8 * 8 := Int.mul_le_mul h0.2 h1.2 (by omega) (by omega)
    rw [if_pos (by decide), xg_pos p18, xg_pos p18, xg_pos (by omega)]
    by_cases c1 : h 35 20 < h 8 0 * h 8 1
    · rw [if_pos c1, xg_pos p18]
      by_cases c2 : h 35 21 < h 8 6
      · rw [if_pos c2, if_neg (by omega)]
      · rw [if_neg c2, if_pos (Or.inl ⟨rfl, Or.inr (by omega)⟩)]
    · rw [if_neg c1, if_pos (Or.inl ⟨rfl, Or.inl (by omega)⟩)]
  · rw [if_neg (by decide), if_neg (by decide), if_neg (by omega)]
  · rw [if_neg (by decide), if_pos (by decide), xg_pos p18]
    by_cases c1 : h 8 0 = 0
    · rw [if_pos c1, if_pos (Or.inr ⟨rfl, Or.inl c1⟩)]
    · rw [if_neg c1, xg_pos p18]
      by_cases c2 : h 35 21 < h 8 0
      · rw [if_pos c2, if_neg (by omega)]
      · rw [if_neg c2, if_pos (Or.inr ⟨rfl, Or.inr (by omega)⟩)]
/-- cells but those of the told text -/
theorem rt_zero {of : Nat} {h : yH} (p18 : h 35 18 = 8) : ∀ (m i n : Nat) (g : yH), 121 - i = m → i ≤ 121 → m ≤ n → (∀ a j, g a j = if a = 8 ∧ j < i then 0 else h a j) → ∃ g', xl_X12_readText n 2 [35, (of : Int), (i : Int)] g = xl_X12_readText (n - m) 2 [35, (of : Int), 121] g' ∧ ∀ a j, g' a j = if a = 8 ∧ j < 121 then 0 else h a j := by
  intro m
  induction m with
  | zero =>
    intro i n g e1 e2 e3 hg
    have : i = 121 := by omega
    subst this
    exact ⟨g, rfl, hg⟩
  | succ m ih =>
    intro i n g e1 e2 e3 hg
    obtain ⟨n, rfl⟩ : ∃ n', n = n' + 1 := ⟨n - 1, by omega⟩
    rw [e_X12_readText_2, if_pos (by omega), xg_pos (by rw [hg, if_neg (by omega)]; exact p18), xg_pos (by omega), xg_pos (by omega), Int.toNat_natCast, show n + 1 - (m + 1) = n - m by omega]
    refine ih (i + 1) n _ (by omega) (by omega) (by omega) (fun a j => ?_)
    by_cases w : a = 8 ∧ j = i
    · rw [w.1, w.2, zup_at, if_pos (by omega)]
    · rw [zup_ne w, hg]
      by_cases w2 : a = 8 ∧ j < i
      · rw [if_pos w2, if_pos (by omega)]
      · rw [if_neg w2, if_neg (by omega)]
theorem rt_coast {of : Int} {h : yH} (p18 : h 35 18 = 8) : ∀ (m c n : Nat) (g : yH), 3 - c = m → c ≤ 3 → m < n → (∀ a j, g a j = if a = 8 ∧ 7 ≤ j ∧ j < 7 + 4 * c then (if (j - 7) % 4 = 0 then 3 else if (j - 7) % 4 = 1 then 1 else if (j - 7) % 4 = 2 then 4 else 6) else h a j) → ∃ g', xl_X12_readText n 50 [35, of, (c : Int)] g = xq_X12_readText_116 (n - m - 1) (xl_X12_readText (n - m - 1)) [35, of, 3] g' ∧ ∀ a j, g' a j = if a = 8 ∧ 7 ≤ j ∧ j < 19 then (if (j - 7) % 4 = 0 then 3 else if (j - 7) % 4 = 1 then 1 else if (j - 7) % 4 = 2 then 4 else 6) else h a j := by
  intro m
  induction m with
  | zero =>
    intro c n g e1 e2 e3 hg
    obtain ⟨n, rfl⟩ : ∃ n', n = n' + 1 := ⟨n - 1, by omega⟩
    have : c = 3 := by omega
    subst this
    rw [e_X12_readText_50, if_neg (by decide)]
    exact ⟨g, rfl, hg⟩
  | succ m ih =>
    intro c n g e1 e2 e3 hg
    obtain ⟨n, rfl⟩ : ∃ n', n = n' + 1 := ⟨n - 1, by omega⟩
    have g18 : g 35 18 = 8 := by rw [hg, if_neg (by omega)]; exact p18
    rw [e_X12_readText_50, if_pos (by omega), xg_pos g18, xg_pos (by omega), xg_pos (by omega), xg_pos (by omega), xg_pos g18, xg_pos (by omega), xg_pos (by omega), xg_pos (by omega), xg_pos (by omega), xg_pos g18, xg_pos (by omega), xg_pos (by omega), xg_pos (by omega), xg_pos (by omega), xg_pos g18, xg_pos (by omega), xg_pos (by omega), xg_pos (by omega), xg_pos (by omega), xg_pos (by omega), show n + 1 - (m + 1) - 1 = n - m - 1 by omega, show (7 + 4 * (c : Int)).toNat = 7 + 4 * c by omega, show (7 + 4 * (c : Int) + 1).toNat = 7 + 4 * c + 1 by omega, show (7 + 4 * (c : Int) + 2).toNat = 7 + 4 * c + 2 by omega, show (7 + 4 * (c : Int) + 3).toNat = 7 + 4 * c + 3 by omega]
    refine ih (c + 1) n _ (by omega) (by omega) (by omega) (fun a j => ?_)
    by_cases w : a = 8 ∧ 7 + 4 * c ≤ j ∧ j < 7 + 4 * c + 4
    · rw [if_pos (by omega)]
      obtain ⟨rfl, w1, w2⟩ := w
      rcases (show j = 7 + 4 * c ∨ j = 7 + 4 * c + 1 ∨ j = 7 + 4 * c + 2 ∨ j = 7 + 4 * c + 3 by omega) with rfl | rfl | rfl | rfl
      · rw [zup_ne (by omega), zup_ne (by omega), zup_ne (by omega), zup_at, if_pos (by omega)]
      · rw [zup_ne (by omega), zup_ne (by omega), zup_at, if_neg (by omega), if_pos (by omega)]
      · rw [zup_ne (by omega), zup_at, if_neg (by omega), if_neg (by omega), if_pos (by omega)]
      · rw [zup_at, if_neg (by omega), if_neg (by omega), if_neg (by omega)]
    · rw [zup_ne (by omega), zup_ne (by omega), zup_ne (by omega), zup_ne (by omega), hg]
      by_cases w2 : a = 8 ∧ 7 ≤ j ∧ j < 7 + 4 * c
      · rw [if_pos w2]
        exact (if_pos (by omega)).symm
      · rw [if_neg w2, if_neg (by omega)]
/-- what is read: a fault, its place, what is told -/
def rtR (of : Nat) (R : (Int × Int) × (Nat → Int)) (h : yH) (v : Int) (h2 : yH) : Prop := h2 2 0 = R.1.1 ∧ h2 3 0 = R.1.2 ∧ v = (if R.1.1 = 0 then 1 else 0) ∧ (R.1.1 = 0 → h2 8 = R.2 ∧ tWf of R.2) ∧ rP h2 ∧ ∀ a j, a ≤ 7 ∨ a = 34 → ¬ (a = 2 ∧ j = 0) → ¬ (a = 3 ∧ j = 0) → h2 a j = h a j
theorem rt_191 {n of : Nat} {x2 y0 : Int} {h3 h : yH} {K : Nat → yK} {R : (Int × Int) × (Nat → Int)} (hof : of ≤ 2) (hK : K = xl_X12_readText n) (hp : rP h3) (hf : pF h h3) (hy : y0 = R.1.1) (hpl : R.1.2 = if x2 = 0 then h3 35 15 else if 0 < h3 35 16 then h3 35 17 else -1) (h8 : R.1.1 = 0 → h3 8 = R.2 ∧ tWf of R.2) : ∃ v h2, xq_X12_readText_191 n K [35, (of : Int), x2, y0, 0, 2] h3 = some (v, h2) ∧ rtR of R h v h2 := by
  have p3 : h3 35 3 = 2 := hp.2.2.1
  have p4 : h3 35 4 = 3 := hp.2.2.2.1
  subst hK
  rw [e_X12_readText_191, xg_pos (by decide), xg_pos p4]
  have fin : ∀ y : Int, y = R.1.2 → ∃ v h2, (xg (h3 35 3 = 2) (if y0 = 0 then some (1, zup (zup h3 2 0 y0) 3 0 y) else some (0, zup (zup h3 2 0 y0) 3 0 y))) = some (v, h2) ∧ rtR of R h v h2 := by
    intro y ey
    have e2 : ∀ z, rtR of R h z (zup (zup h3 2 0 y0) 3 0 y) ↔ z = if R.1.1 = 0 then 1 else 0 := by
      intro z
      constructor
      · exact fun w => w.2.2.1
      · intro w
        refine ⟨by rw [zup_ne (by omega), zup_at]; exact hy, by rw [zup_at]; exact ey, w, fun w0 => ?_, (hp.up (by omega)).up (by omega), fun a j w1 w2 w3 => by rw [zup_ne w3, zup_ne w2]; exact hf a j w1⟩
        rw [zup_row (by decide), zup_row (by decide)]
        exact h8 w0
    rw [xg_pos p3]
    by_cases hz : y0 = 0
    · rw [if_pos hz]
      exact ⟨1, _, rfl, (e2 1).mpr (by rw [if_pos (by omega)])⟩
    · rw [if_neg hz]
      exact ⟨0, _, rfl, (e2 0).mpr (by rw [if_neg (by omega)])⟩
  by_cases c1 : x2 = 0
  · rw [if_pos c1] at hpl ⊢
    exact fin _ hpl.symm
  · rw [if_neg c1] at hpl ⊢
    by_cases c2 : 0 < h3 35 16
    · rw [if_pos c2] at hpl ⊢
      exact fin _ hpl.symm
    · rw [if_neg c2] at hpl ⊢
      exact fin _ hpl.symm
set_option maxHeartbeats 1000000 in
theorem rt_116 {u : Nat → Int} {N of n : Nat} {x2 : Int} {h : yH} (hof : of ≤ 2) (hn : 2200 ≤ n) (hc : rC u N h) (ht : ∀ j, j < 121 → h 8 j = tI of j) : ∃ v h2, xq_X12_readText_116 n (xl_X12_readText n) [35, (of : Int), x2] h = some (v, h2) ∧ rtR of (pRd u N of 700 0 (0, -1) (h 8) (-1) (-1)) h v h2 := by
  have hN := hc.2.2.1
  have hW := tI_W hof ht
  rw [e_X12_readText_116]
  generalize hg0 : zup (zup (zup (zup h 35 20 (-1)) 35 21 (-1)) 35 9 0) 35 16 0 = g0
  have g0n : ∀ a j, ¬ (a = 35 ∧ (j = 20 ∨ j = 21 ∨ j = 9 ∨ j = 16)) → g0 a j = h a j := fun a j w => by rw [← hg0, zup_ne (by omega), zup_ne (by omega), zup_ne (by omega), zup_ne (by omega)]
  have g20 : g0 35 20 = -1 := by rw [← hg0, zup_ne (by omega), zup_ne (by omega), zup_ne (by omega), zup_at]
  have g21 : g0 35 21 = -1 := by rw [← hg0, zup_ne (by omega), zup_ne (by omega), zup_at]
  have g9 : g0 35 9 = ((0 : Nat) : Int) := by rw [← hg0, zup_ne (by omega), zup_at]; rfl
  have g16 : g0 35 16 = 0 := by rw [← hg0, zup_at]
  have c0 : rC u N g0 := hc.fr (fun i => g0n 0 i (by omega)) (fun j hj => g0n 35 j (by omega))
  obtain ⟨g1, t0, t1, t2⟩ := token_e (n := n) (by omega) hN c0.1 c0.2.2.2.1 c0.2.1 g9 (Nat.zero_le _)
  have e8 : g1 8 = h 8 := by
    funext j
    rw [t2 8 j (by omega), g0n 8 j (by omega)]
  have f20 : g1 35 20 = -1 := by rw [t2 35 20 (by omega)]; exact g20
  have f21 : g1 35 21 = -1 := by rw [t2 35 21 (by omega)]; exact g21
  obtain ⟨v, h3, y0, y1, y2, y3⟩ := lines_e hof 700 0 n (0, -1) g1 (h 8) (-1) (-1) (by omega) (by omega) (Nat.zero_le _) (t2.c c0) t1 ⟨by rw [t2 35 16 (by omega)]; exact g16, fun w => absurd rfl w, by decide, by decide⟩ (Or.inl rfl) (fun _ => ⟨rfl, e8, f20, f21, hW⟩) (by
    rw [e8]
    refine ⟨fun w => ?_, fun w => ?_, fun w => ?_⟩
    · obtain ⟨-, -, -, -, -, h5, h6, h49, -⟩ := hW.1 w
      exact ⟨h5, h6, h49⟩
    · exact (hW.2.1 w).1
    · exact ⟨(hW.2.2 w).1, (hW.2.2 w).2.1⟩) (by rw [f20]; decide) (by rw [f21]; decide)
  have pf : pF h h3 := pF.tr (fun a j w => by rw [t2 a j (by omega), g0n a j (by omega)]) y1
  have p3 : h3 35 3 = 2 := y2.2.2.1
  rw [t0, xb_some, e_X12_lines, y0, xb_some]
  generalize hR : pRd u N of 700 0 (0, -1) (h 8) (-1) (-1) = R at y3 ⊢
  rcases y3 with ⟨rfl, y3⟩ | ⟨rfl, y3⟩
  · rw [if_pos rfl, xg_pos p3, if_pos rfl]
    exact rt_191 hof rfl y2 pf (by rw [y3]) (by rw [y3, if_pos rfl]) (fun w => by rw [y3] at w; simp at w)
  · obtain ⟨q, t, c, o, x, z0, z1, z2, z3, z4, z5, z6⟩ := y3
    obtain ⟨b1, b2, b3, b4⟩ := z3
    rw [if_neg (by decide)]
    by_cases hq : q.1 = 0
    · obtain ⟨m1, m2, m3, m4, m5⟩ := z4 hq
      rw [if_pos (by omega), wrong_e hof y2 (by rw [m2]; exact m5), xb_some, m2, m3, m4]
      by_cases hX : lnX of t c o
      · rw [if_pos hX, if_neg (by decide)]
        obtain ⟨l1, l2⟩ := later_e (n := n) (f := 4) (p := h3 35 11) (q := q) ⟨b1, b2, b3, b4⟩ (Or.inl hq) (by decide)
        rw [l1, xb_some, if_pos hq]
        rw [if_pos hq, nt_t hq trivial] at l2
        have hRe : R.1 = (4, ((tkS u N x : Nat) : Int)) := by rw [z0]; exact @nt_t _ _ (Classical.propDecidable _) _ _ hq hX
        have e16 : zup (zup h3 35 16 4) 35 17 (h3 35 11) 35 16 = 4 := by rw [zup_ne (by omega), zup_at]
        rw [xg_pos (by rw [zup_ne (by omega), zup_ne (by omega)]; exact p3), if_neg (by decide), e16]
        refine rt_191 hof rfl ((y2.up (by omega)).up (by omega)) ((pf.up (by omega)).up (by omega)) (by rw [hRe]) ?_ (fun w => by rw [hRe] at w; simp at w)
        rw [hRe, if_neg (by decide), if_pos (by rw [e16]; decide), zup_at]
        exact z2.symm
      · rw [if_neg hX, if_pos rfl, xg_pos p3, if_neg (by decide), b1]
        have hRe : R = (q, t) := by rw [z0, @nt_f _ _ (Classical.propDecidable _) _ _ hX]
        refine rt_191 hof rfl y2 pf (by rw [hRe]) ?_ (fun _ => by rw [hRe]; exact ⟨m2, m5⟩)
        rw [hRe, if_neg (by decide), if_neg (by omega)]
        exact m1
    · have hRe : R = (q, t) := by rw [z0, @nt_n _ _ (Classical.propDecidable _) _ _ hq]
      rw [if_neg (by omega), xg_pos p3, if_neg (by decide), b1]
      refine rt_191 hof rfl y2 pf (by rw [hRe]) ?_ (fun w => by rw [hRe] at w; exact absurd w hq)
      rw [hRe, if_neg (by decide), if_pos (by omega)]
      exact (b2 hq).symm
theorem readText_e {u : Nat → Int} {N of n : Nat} {h : yH} (hof : of ≤ 2) (hn : 2400 ≤ n) (hc : rC u N h) : ∃ t0 v h2, (∀ j, j < 121 → t0 j = tI of j) ∧ f_X12_readText n [35, (of : Int)] h = some (v, h2) ∧ rtR of (pRd u N of 700 0 (0, -1) t0 (-1) (-1)) h v h2 := by
  have p18 : h 35 18 = 8 := hc.2.2.2.2.2.2.2.2.2.2.2.1
  obtain ⟨g, r0, r1⟩ := rt_zero (of := of) p18 121 0 n h rfl (by decide) (by omega) (fun a j => by rw [if_neg (by omega)])
  have r0 : xl_X12_readText n 2 [35, (of : Int), 0] h = xl_X12_readText (n - 121) 2 [35, (of : Int), 121] g := r0
  have g18 : g 35 18 = 8 := by rw [r1, if_neg (by omega)]; exact p18
  have cg : rC u N g := hc.fr (fun i => by rw [r1, if_neg (by omega)]) (fun j _ => by rw [r1, if_neg (by omega)])
  have pg : pF h g := fun a j w => by rw [r1, if_neg (by omega)]
  obtain ⟨k, hk⟩ : ∃ k, n - 121 = k + 1 := ⟨n - 122, by omega⟩
  rw [e_X12_readText, r0, hk, e_X12_readText_2, if_neg (by decide)]
  have back : ∀ {h0 : yH} {R : (Int × Int) × (Nat → Int)} {v : Int} {h2 : yH}, pF h h0 → rtR of R h0 v h2 → rtR of R h v h2 := by
    intro h0 R v h2 w1 ⟨a1, a2, a3, a4, a5, a6⟩
    exact ⟨a1, a2, a3, a4, a5, fun a j x1 x2 x3 => (a6 a j x1 x2 x3).trans (w1 a j x1)⟩
  by_cases h0 : of = 0
  · subst h0
    rw [if_pos (by decide), xg_pos g18, xg_pos g18, xg_pos g18]
    generalize hg1 : zup (zup (zup g 8 0 6) 8 1 6) 8 4 4 = g1
    have g1n : ∀ a j, a ≠ 8 → g1 a j = g a j := fun a j w => by rw [← hg1, zup_ne (by omega), zup_ne (by omega), zup_ne (by omega)]
    obtain ⟨g2, s0, s1⟩ := rt_coast (of := ((0 : Nat) : Int)) (h := g1) (by rw [g1n 35 18 (by decide)]; exact g18) 3 0 k g1 rfl (by decide) (by omega) (fun a j => by rw [if_neg (by omega)])
    have s0 : xl_X12_readText k 50 [35, ((0 : Nat) : Int), 0] g1 = xq_X12_readText_116 (k - 3 - 1) (xl_X12_readText (k - 3 - 1)) [35, ((0 : Nat) : Int), 3] g2 := s0
    have g2n : ∀ a j, a ≠ 8 → g2 a j = g a j := fun a j w => by rw [s1, if_neg (by omega)]; exact g1n a j w
    have ht : ∀ j, j < 121 → g2 8 j = tI 0 j := by
      intro j hj
      rw [s1]
      unfold tI
      rw [if_pos (rfl : (0 : Nat) = 0)]
      by_cases w : 7 ≤ j ∧ j < 19
      · rw [if_pos ⟨rfl, w⟩, if_neg (show ¬ j ≤ 1 by omega), if_neg (show ¬ j = 4 by omega), if_pos w]
      · rw [if_neg (fun x => w x.2), if_neg w, ← hg1]
        by_cases w1 : j ≤ 1
        · rw [if_pos w1]
          rcases (show j = 0 ∨ j = 1 by omega) with rfl | rfl
          · rw [zup_ne (by omega), zup_ne (by omega), zup_at]
          · rw [zup_ne (by omega), zup_at]
        · rw [if_neg w1]
          by_cases w4 : j = 4
          · rw [if_pos w4, w4, zup_at]
          · rw [if_neg w4, zup_ne (by omega), zup_ne (by omega), zup_ne (by omega), r1, if_pos ⟨rfl, hj⟩]
    obtain ⟨v, h2, y0, y1⟩ := rt_116 (n := k - 3 - 1) (x2 := 3) (h := g2) hof (by omega) (cg.fr (fun i => g2n 0 i (by decide)) (fun j _ => g2n 35 j (by decide))) ht
    exact ⟨g2 8, v, h2, ht, by rw [s0]; exact y0, back (pg.tr (fun a j w => g2n a j (by omega))) y1⟩
  · rw [if_neg (by omega)]
    have ht : ∀ j, j < 121 → g 8 j = tI of j := by
      intro j hj
      rw [r1, if_pos ⟨rfl, hj⟩]
      unfold tI
      rw [if_neg h0]
    obtain ⟨v, h2, y0, y1⟩ := rt_116 (n := k) (x2 := 121) (h := g) hof (by omega) cg ht
    exact ⟨g 8, v, h2, ht, y0, back pg y1⟩
