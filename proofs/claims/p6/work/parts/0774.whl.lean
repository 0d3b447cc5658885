/-! a text without fault is whole -/
theorem nt_0 {q : Int × Int} {c : Prop} {dc : Decidable c} {f p : Int} (hf : f ≠ 0) (h : (@nt q c dc f p).1 = 0) : q.1 = 0 ∧ ¬ c ∧ @nt q c dc f p = q := by
  by_cases hq : q.1 = 0
  · by_cases hc : c
    · rw [ntt hq hc] at h
      exact absurd h hf
    · exact ⟨hq, hc, ntf hc⟩
  · rw [ntn hq] at h
    exact absurd h hq
theorem pRd_w {u : Nat → Int} {N of : Nat} (hof : of ≤ 2) : ∀ (m x : Nat) (q : Int × Int) (t : Nat → Int) (c o : Int), N - x < m → x ≤ N → (q.1 = 0 → tWf of t ∧ cI of t c o) → (pRd u N of m x q t c o).1.1 = 0 →
    ∃ c2 o2, tWf of (pRd u N of m x q t c o).2 ∧ cI of (pRd u N of m x q t c o).2 c2 o2 ∧ ¬ lnX of (pRd u N of m x q t c o).2 c2 o2 := by
  intro m
  induction m with
  | zero => intro x q t c o e1; omega
  | succ m ih =>
    intro x q t c o e1 hx hI
    simp only [pRd]
    by_cases hK0 : tkK u N x = 0
    · rw [if_pos hK0]
      intro w
      obtain ⟨w1, w2, w3⟩ := nt_0 (by decide) w
      obtain ⟨i1, i2⟩ := hI w1
      exact ⟨c, o, i1, i2, w2⟩
    · rw [if_neg hK0]
      by_cases h15 : lnAt u N of x = 15
      · rw [if_pos h15]
        intro w
        exact absurd w (show ¬ (1 : Int) = 0 by decide)
      · rw [if_neg h15]
        obtain ⟨hk2, hi, hwe⟩ := lnAt_p h15
        generalize lnAt u N of x = ln at *
        by_cases hex : ∃ i, i < lnN ln ∧ tkK u N (tkN u N x (i + 1)) ≠ 3 ∧ ∀ j, j < i → tkK u N (tkN u N x (j + 1)) = 3
        · rw [dif_pos hex]
          intro w
          exact absurd w (show ¬ (1 : Int) = 0 by decide)
        · rw [dif_neg hex]
          by_cases k2 : tkK u N (tkN u N x (lnN ln + 1)) ≠ 4
          · rw [if_pos k2]
            intro w
            exact absurd w (show ¬ (1 : Int) = 0 by decide)
          · rw [if_neg k2]
            have k4 : tkK u N (tkN u N x (lnN ln + 1)) = 4 := Decidable.not_not.mp k2
            have y1 : x ≤ tkN u N x (lnN ln + 1) := tkN_le _
            have y2 : tkN u N x (lnN ln + 1) ≤ N := tkN_m hx _
            have y3 : tkS u N (tkN u N x (lnN ln + 1)) < N := by
              have a1 : tkS u N (tkN u N x (lnN ln + 1)) ≤ N := tkS_n y2
              have a2 : ¬ tkS u N (tkN u N x (lnN ln + 1)) = N := fun w => by
                have := (tkK_0 y2).mpr w
                omega
              omega
            have y4 := tkE_gt y3
            have y5 : tkN u N x (lnN ln + 1) ≤ tkS u N (tkN u N x (lnN ln + 1)) := tkS_le
            have y6 : tkE u N (tkN u N x (lnN ln + 1)) ≤ N := tkE_n y2
            refine ih _ _ _ _ _ (by omega) y6 (fun w => ?_)
            obtain ⟨z1, z2, z3⟩ := ntL_0 w
            obtain ⟨w1, hM, w3⟩ := nt_0 (by decide) z1
            obtain ⟨i1, i2⟩ := hI w1
            exact ⟨lnT_W (by have := lnIn_j hof hi; omega) i1 z3 hM, cI_T hof hi i2 i1 z3 hM⟩
/-- cells in the sea, sayings that are there -/
def wh0 (t : Nat → Int) : Prop := (∀ k : Nat, k < 4 → (k : Int) < t 5 → t (19 + 3 * k) < t 0 * t 1) ∧ ∀ k : Nat, k < 6 → (k : Int) < t 6 → t (31 + 3 * k) < t 0 * t 1
def wh2 (t : Nat → Int) : Prop := 1 ≤ t 0 ∧ ∀ k : Nat, k < 16 → (k : Int) < t 1 → t (20 + 2 * k) < t 0 ∧ t (21 + 2 * k) < t 0
theorem wh0.c {t t2 : Nat → Int} (h : wh0 t) (e : ∀ j, j < 50 → t2 j = t j) : wh0 t2 := by
  refine ⟨fun k hk h5 => ?_, fun k hk h6 => ?_⟩
  · rw [e 5 (by decide)] at h5
    rw [e _ (by omega), e 0 (by decide), e 1 (by decide)]
    exact h.1 k hk h5
  · rw [e 6 (by decide)] at h6
    rw [e _ (by omega), e 0 (by decide), e 1 (by decide)]
    exact h.2 k hk h6
theorem wh2.c {t t2 : Nat → Int} (h : wh2 t) (e : ∀ j, j < 52 → t2 j = t j) : wh2 t2 := by
  refine ⟨by rw [e 0 (by decide)]; exact h.1, fun k hk h1 => ?_⟩
  rw [e 1 (by decide)] at h1
  rw [e _ (by omega), e (21 + 2 * k) (by omega), e 0 (by decide)]
  exact h.2 k hk h1
theorem pRd_h {u : Nat → Int} {N of : Nat} {t0 : Nat → Int} (hof : of ≤ 2) (hN : N ≤ 600) (ht : ∀ j, j < 121 → t0 j = tI of j) (h0 : (pRd u N of 700 0 (0, -1) t0 (-1) (-1)).1.1 = 0) : (of = 0 → wh0 (pRd u N of 700 0 (0, -1) t0 (-1) (-1)).2) ∧ (of = 2 → wh2 (pRd u N of 700 0 (0, -1) t0 (-1) (-1)).2) := by
  obtain ⟨c, o, w1, w2, w3⟩ := pRd_w (u := u) (N := N) hof 700 0 (0, -1) t0 (-1) (-1) (by omega) (by omega) (fun _ => ⟨tI_W hof ht, cI_0 hof ht⟩) h0
  generalize (pRd u N of 700 0 (0, -1) t0 (-1) (-1)).2 = t at *
  refine ⟨fun e => ?_, fun e => ?_⟩
  · obtain ⟨i1, i2, -, -⟩ := w2.1 e
    have hc : ¬ (t 0 * t 1 ≤ c) := fun w => w3 (Or.inl ⟨e, Or.inl w⟩)
    refine ⟨fun k _ hk => ?_, fun k _ hk => ?_⟩
    · have := i1 k hk
      omega
    · have := i2 k hk
      omega
  · obtain ⟨i1, -⟩ := w2.2 e
    have hb := (w1.2.2 e).1
    have h1 : ¬ t 0 = 0 := fun w => w3 (Or.inr ⟨e, Or.inl w⟩)
    have h2 : ¬ t 0 ≤ o := fun w => w3 (Or.inr ⟨e, Or.inr w⟩)
    refine ⟨by omega, fun k _ hk => ?_⟩
    obtain ⟨j1, j2⟩ := i1 k hk
    exact ⟨by omega, by omega⟩
/-! the told texts are whole, those of the images too: kept by every call of the reference -/
def WHk (κ : Nat) (g : yH) : Prop := (∀ i : Nat, i < 2 → (i : Int) < g 4 (3 * κ) → wh0 (fun j => g 5 (100 * κ + 50 * i + j))) ∧ ∀ i : Nat, i < 2 → (i : Int) < g 4 (3 * κ + 2) → wh2 (fun j => g 7 (104 * κ + 52 * i + j))
def WH (g : yH) : Prop := ∀ κ, κ < 4 → WHk κ g
theorem WHk.c {κ κ2 : Nat} {g g2 : yH} (h : WHk κ g) (e4 : ∀ j, j < 3 → g2 4 (3 * κ2 + j) = g 4 (3 * κ + j)) (e5 : ∀ j, j < 100 → g2 5 (100 * κ2 + j) = g 5 (100 * κ + j)) (e7 : ∀ j, j < 104 → g2 7 (104 * κ2 + j) = g 7 (104 * κ + j)) : WHk κ2 g2 := by
  refine ⟨fun i hi w => ?_, fun i hi w => ?_⟩
  · have e := e4 0 (by decide)
    rw [Nat.add_zero, Nat.add_zero] at e
    rw [e] at w
    refine (h.1 i hi w).c (fun j hj => ?_)
    show g2 5 (100 * κ2 + 50 * i + j) = g 5 (100 * κ + 50 * i + j)
    rw [Nat.add_assoc, e5 _ (by omega), Nat.add_assoc]
  · rw [e4 2 (by decide)] at w
    refine (h.2 i hi w).c (fun j hj => ?_)
    show g2 7 (104 * κ2 + 52 * i + j) = g 7 (104 * κ + 52 * i + j)
    rw [Nat.add_assoc, e7 _ (by omega), Nat.add_assoc]
theorem WH.fr {g g2 : yH} (h : WH g) (e : ∀ a j, a = 4 ∨ a = 5 ∨ a = 7 → g2 a j = g a j) : WH g2 := fun κ hκ => (h κ hκ).c (fun j _ => e _ _ (by omega)) (fun j _ => e _ _ (by omega)) (fun j _ => e _ _ (by omega))
theorem WH.ra {f t : Nat} {g g2 : yH} (h : WH g) (hf : f < 4) (hr : raR f t g g2) : WH g2 := by
  obtain ⟨-, -, -, -, r4, r5, -, r7, -, -, s4, s5, -, s7, -⟩ := hr
  intro κ hκ
  by_cases q : κ = t
  · subst q
    exact (h f hf).c r4 r5 r7
  · exact (h κ hκ).c (fun j hj => s4 _ (by omega)) (fun j hj => s5 _ (by omega)) (fun j hj => s7 _ (by omega))
theorem yO_d {r : yO} {v : Int} {g2 : yH} {P : Int → yH → Prop} (e : r = some (v, g2)) (h : yR r P) : P v g2 := by
  obtain ⟨v', g', e', p⟩ := h
  have q := Option.some.inj (e.symm.trans e')
  rw [show v = v' from congrArg Prod.fst q, show g2 = g' from congrArg Prod.snd q]
  exact p
theorem rBd.c0 {g : yH} (gb : rBd g) : rBd (zup g 35 0 0) := fun a ha j hj => by
  rw [zup_ne (by omega)]
  exact gb a ha j hj
theorem frH_image {m : Nat} {x v : Int} {g g2 : yH} (hn : 1000 ≤ m) (gP : rP g) (gb : rBd g) (p63 : g 35 63 = 34) (e : f_X12_image m [35, x] g = some (v, g2)) (h : WH g) : WH g2 := by
  refine yO_d (P := fun _ g2 => WH g2) e (yR.e e_X12_image ?_)
  have h0 : WH (zup g 35 0 0) := h.fr (fun a j w => zup_ne (by omega))
  by_cases w : 0 ≤ x ∧ x ≤ 2
  · rw [in_t w, xb_some, if_neg (by decide), xg_pos (by omega)]
    have c := call_e (n := m) (f := 0) (t := x.toNat + 1) hn (gP.fr (h2 := zup g 35 0 0) (fun j hj => by rw [zup_ne (by omega)])) gb.c0 (by decide) (by omega) (by omega)
    rw [show ((0 : Nat) : Int) = 0 from rfl, show ((x.toNat + 1 : Nat) : Int) = x + 1 by omega] at c
    refine yR.b c (fun v1 g1 hr => ?_)
    have c1 : g1 35 63 = 34 := by
      obtain ⟨-, -, -, -, -, -, -, -, -, -, -, -, -, -, r8⟩ := hr
      rw [r8 35 63 (by decide), zup_ne (by omega)]
      exact p63
    rw [xg_pos c1, xg_pos (by omega)]
    exact yR.s ((h0.ra (by decide) hr).fr (fun a j w => zup_ne (by omega)))
  · rw [in_f w, xb_some, if_pos rfl]
    exact yR.s h0
theorem frH_again {m : Nat} {x v : Int} {g g2 : yH} (hn : 1000 ≤ m) (gP : rP g) (gb : rBd g) (p63 : g 35 63 = 34) (e : f_X12_again m [35, x] g = some (v, g2)) (h : WH g) : WH g2 := by
  refine yO_d (P := fun _ g2 => WH g2) e (yR.e e_X12_again ?_)
  have h0 : WH (zup g 35 0 0) := h.fr (fun a j w => zup_ne (by omega))
  by_cases w : 0 ≤ x ∧ x ≤ 2
  · rw [in_t w, xb_some, if_neg (by decide), xg_pos (by rw [zup_ne (by omega)]; exact p63), xg_pos (by omega)]
    by_cases c1 : (zup g 35 0 0) 34 x.toNat = 0
    · rw [if_pos c1]
      exact yR.s h0
    · rw [if_neg c1, xg_pos (by omega)]
      have c := call_e (n := m) (f := x.toNat + 1) (t := 0) hn (gP.fr (h2 := zup g 35 0 0) (fun j hj => by rw [zup_ne (by omega)])) gb.c0 (by omega) (by decide) (by omega)
      rw [show ((0 : Nat) : Int) = 0 from rfl, show ((x.toNat + 1 : Nat) : Int) = x + 1 by omega] at c
      refine yR.b c (fun v1 g1 hr => ?_)
      exact yR.s (h0.ra (by omega) hr)
  · rw [in_f w, xb_some, if_pos rfl]
    exact yR.s h0
theorem frH_feed {n : Nat} {x1 x2 x3 x4 x5 v : Int} {g g2 : yH} (hn : 6 ≤ n) (gP : rP g) (h1 : 0 ≤ g 1 0 ∧ g 1 0 ≤ 600) (e : f_X12_feed n [35, x1, x2, x3, x4, x5] g = some (v, g2)) (h : WH g) : WH g2 := by
  obtain ⟨m, em⟩ : ∃ m : Nat, g 1 0 = (m : Int) := ⟨(g 1 0).toNat, by omega⟩
  obtain ⟨-, r⟩ := yO_d e (feedR_r (x1 := x1) (x2 := x2) (x3 := x3) (x4 := x4) (x5 := x5) hn gP em (by omega))
  rcases r with ⟨-, -, r⟩ | ⟨-, -, -, r⟩
  · rw [r]
    exact h.fr (fun a j w => zup_ne (by omega))
  · exact h.fr (fun a j w => by rw [r a j (by omega), if_neg (by omega), zup_ne (by omega)])
theorem frH_end {n : Nat} {x v : Int} {g g2 : yH} (gP : rP g) (h1 : 0 ≤ g 1 0 ∧ g 1 0 ≤ 600) (e : f_X12_end n [35, x] g = some (v, g2)) (h : WH g) : WH g2 := by
  rcases yO_d e (endR_r (x := x) gP h1) with ⟨-, -, r⟩ | ⟨-, -, r⟩
  · rw [r]
    exact h.fr (fun a j w => zup_ne (by omega))
  · rw [r]
    exact h.fr (fun a j w => by rw [zup_ne (by omega), zup_ne (by omega)])
theorem frH_text {n : Nat} {sort at_ v : Int} {g g2 : yH} (hn : 2600 ≤ n) (gP : rP g) (h1 : 0 ≤ g 1 0 ∧ g 1 0 ≤ 600) (hm : ∀ j, j < 12 → 0 ≤ g 4 j ∧ g 4 j ≤ 2) (e : f_X12_text n [35, sort, at_] g = some (v, g2)) (h : WH g) : WH g2 := by
  obtain ⟨t0, v', g', ht, e', r⟩ := text_e (sort := sort) (at_ := at_) hn gP h1 hm
  have q := Option.some.inj (e.symm.trans e')
  rw [show g2 = g' from congrArg Prod.snd q]
  obtain ⟨-, -, -, -, -, -, -, r⟩ := r
  rcases r with ⟨-, -, -, -, r⟩ | ⟨kn, -, -, ⟨-, -, r⟩ | ⟨w0, -, wf, r⟩⟩
  · exact h.fr (fun a j w => r a j (by omega))
  · exact h.fr (fun a j w => r a j (by omega))
  · have k2 := txK_b (fun j hj => hm j (by omega)) kn
    obtain ⟨p0, p2⟩ := pRd_h (u := uR g) (N := (g 1 0).toNat) (of := sort.toNat) (by omega) (by omega) ht w0
    generalize (pRd (uR g) (g 1 0).toNat sort.toNat 700 0 (0, -1) t0 (-1) (-1)).2 = t at *
    obtain ⟨K, hK⟩ : ∃ K : Nat, (txK (g 4) sort at_).toNat = K := ⟨_, rfl⟩
    rw [hK] at r
    have hK2 : K < 2 := by omega
    have hof : sort.toNat ≤ 2 := by omega
    generalize sort.toNat = of at *
    have z4 : ∀ j, j ≠ of → g' 4 j = g 4 j := fun j w => by
      rw [r 4 j (by omega)]
      unfold txS
      rw [if_neg (by omega), if_neg (by omega), if_neg (by omega), if_neg (by omega)]
    have zo : g' 4 of = if g 4 of = (K : Int) then g 4 of + 1 else g 4 of := by
      rw [r 4 of (by omega)]
      unfold txS
      rw [if_pos ⟨rfl, rfl⟩]
    have z5 : ∀ j, ¬ (of = 0 ∧ 50 * K ≤ j ∧ j < 50 * K + 50) → g' 5 j = g 5 j := fun j w => by
      rw [r 5 j (by omega)]
      unfold txS
      rw [if_neg (by omega), if_neg (by omega), if_neg (by omega), if_neg (by omega)]
    have z5t : of = 0 → ∀ j, j < 50 → g' 5 (50 * K + j) = t j := fun w j hj => by
      rw [r 5 _ (by omega)]
      unfold txS
      rw [if_neg (by omega), if_pos (by omega), show 50 * K + j - 50 * K = j by omega]
    have z7 : ∀ j, ¬ (of = 2 ∧ 52 * K ≤ j ∧ j < 52 * K + 52) → g' 7 j = g 7 j := fun j w => by
      rw [r 7 j (by omega)]
      unfold txS
      rw [if_neg (by omega), if_neg (by omega), if_neg (by omega), if_neg (by omega)]
    have z7t : of = 2 → ∀ j, j < 52 → g' 7 (52 * K + j) = t j := fun w j hj => by
      rw [r 7 _ (by omega)]
      unfold txS
      rw [if_neg (by omega), if_neg (by omega), if_neg (by omega), if_pos (by omega), show 52 * K + j - 52 * K = j by omega]
    intro κ hκ
    by_cases q0 : κ = 0
    · subst q0
      obtain ⟨h0, h2⟩ := h 0 (by decide)
      refine ⟨fun i hi w => ?_, fun i hi w => ?_⟩
      · by_cases qi : of = 0 ∧ i = K
        · refine (p0 qi.1).c (fun j hj => ?_)
          show g' 5 (100 * 0 + 50 * i + j) = t j
          rw [← z5t qi.1 j hj, qi.2, show 100 * 0 + 50 * K + j = 50 * K + j by omega]
        · have w' : (i : Int) < g 4 (3 * 0) := by
            by_cases qo : of = 0
            · rw [show 3 * 0 = of by omega, zo] at w
              rw [show 3 * 0 = of by omega]
              split at w <;> omega
            · rw [z4 _ (by omega)] at w
              exact w
          exact (h0 i hi w').c (fun j hj => z5 _ (by omega))
      · by_cases qi : of = 2 ∧ i = K
        · refine (p2 qi.1).c (fun j hj => ?_)
          show g' 7 (104 * 0 + 52 * i + j) = t j
          rw [← z7t qi.1 j hj, qi.2, show 104 * 0 + 52 * K + j = 52 * K + j by omega]
        · have w' : (i : Int) < g 4 (3 * 0 + 2) := by
            by_cases qo : of = 2
            · rw [show 3 * 0 + 2 = of by omega, zo] at w
              rw [show 3 * 0 + 2 = of by omega]
              split at w <;> omega
            · rw [z4 _ (by omega)] at w
              exact w
          exact (h2 i hi w').c (fun j hj => z7 _ (by omega))
    · exact (h κ hκ).c (fun j hj => z4 _ (by omega)) (fun j hj => z5 _ (by omega)) (fun j hj => z7 _ (by omega))
