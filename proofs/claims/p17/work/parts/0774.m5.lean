section
/-! a text without fault is whole -/
theorem nt_0 {q : Int × Int} {c : Prop} {dc : Decidable c} {f p : Int} (hf : f ≠ 0) (h : (@nt q c dc f p).1 = 0) : q.1 = 0 ∧ ¬ c ∧ @nt q c dc f p = q := by
  by_cases hq : q.1 = 0
  · by_cases hc : c
    · rw [ntt hq hc] at h
      exact absurd h hf
    · exact ⟨hq, hc, ntf hc⟩
  · rw [ntn hq] at h
    exact absurd h hq
theorem pRd_w {u : Nat → Int} {N of : Nat} (hof : of ≤ 2) : ∀ (m x : Nat) (q : Int × Int) (t : Nat → Int) (c o : Int), N - x < m → x ≤ N → (q.1 = 0 → tWf of t ∧ cI of t c o) → (pRd u N of m x q t c o).1.1 = 0 →
    ∃ c2 o2, tWf of (pRd u N of m x q t c o).2 ∧ cI of (pRd u N of m x q t c o).2 c2 o2 ∧ ¬ lnX of (pRd u N of m x q t c o).2 c2 o2 := by
  intro m
  induction m with
  | zero => intro x q t c o e1; omega
  | succ m ih =>
    intro x q t c o e1 hx hI
    simp only [pRd]
    by_cases hK0 : tkK u N x = 0
    · rw [if_pos hK0]
      intro w
      obtain ⟨w1, w2, w3⟩ := nt_0 (by decide) w
      obtain ⟨i1, i2⟩ := hI w1
      exact ⟨c, o, i1, i2, w2⟩
    · rw [if_neg hK0]
      by_cases h15 : lnAt u N of x = 15
      · rw [if_pos h15]
        intro w
        exact absurd w (show ¬ (1 : Int) = 0 by decide)
      · rw [if_neg h15]
        obtain ⟨hk2, hi, hwe⟩ := lnAt_p h15
        generalize lnAt u N of x = ln at *
        by_cases hex : ∃ i, i < lnN ln ∧ tkK u N (tkN u N x (i + 1)) ≠ 3 ∧ ∀ j, j < i → tkK u N (tkN u N x (j + 1)) = 3
        · rw [dif_pos hex]
          intro w
          exact absurd w (show ¬ (1 : Int) = 0 by decide)
        · rw [dif_neg hex]
          by_cases k2 : tkK u N (tkN u N x (lnN ln + 1)) ≠ 4
          · rw [if_pos k2]
            intro w
            exact absurd w (show ¬ (1 : Int) = 0 by decide)
          · rw [if_neg k2]
            have k4 : tkK u N (tkN u N x (lnN ln + 1)) = 4 := Decidable.not_not.mp k2
            have y1 : x ≤ tkN u N x (lnN ln + 1) := tkN_le _
            have y2 : tkN u N x (lnN ln + 1) ≤ N := tkN_m hx _
            have y3 : tkS u N (tkN u N x (lnN ln + 1)) < N := by
              have a1 : tkS u N (tkN u N x (lnN ln + 1)) ≤ N := tkS_n y2
              have a2 : ¬ tkS u N (tkN u N x (lnN ln + 1)) = N := fun w => by
                have := (tkK_0 y2).mpr w
                omega
              omega
            have y4 := tkE_gt y3
            have y5 : tkN u N x (lnN ln + 1) ≤ tkS u N (tkN u N x (lnN ln + 1)) := tkS_le
            have y6 : tkE u N (tkN u N x (lnN ln + 1)) ≤ N := tkE_n y2
            refine ih _ _ _ _ _ (by omega) y6 (fun w => ?_)
            obtain ⟨z1, z2, z3⟩ := ntL_0 w
            obtain ⟨w1, hM, w3⟩ := nt_0 (by decide) z1
            obtain ⟨i1, i2⟩ := hI w1
            exact ⟨lnT_W (by have := lnIn_j hof hi; omega) i1 z3 hM, cI_T hof hi i2 i1 z3 hM⟩
/-- cells in the sea, sayings that are there -/
def wh0 (t : Nat → Int) : Prop := (∀ k : Nat, k < 4 → (k : Int) < t 5 → t (19 + 3 * k) < t 0 * t 1) ∧ ∀ k : Nat, k < 6 → (k : Int) < t 6 → t (31 + 3 * k) < t 0 * t 1
def wh2 (t : Nat → Int) : Prop := 1 ≤ t 0 ∧ ∀ k : Nat, k < 16 → (k : Int) < t 1 → t (20 + 2 * k) < t 0 ∧ t (21 + 2 * k) < t 0
theorem wh0.c {t t2 : Nat → Int} (h : wh0 t) (e : ∀ j, j < 50 → t2 j = t j) : wh0 t2 := by
  refine ⟨fun k hk h5 => ?_, fun k hk h6 => ?_⟩
  · rw [e 5 (by decide)] at h5
    rw [e _ (by omega), e 0 (by decide), e 1 (by decide)]
    exact h.1 k hk h5
  · rw [e 6 (by decide)] at h6
    rw [e _ (by omega), e 0 (by decide), e 1 (by decide)]
    exact h.2 k hk h6
theorem wh2.c {t t2 : Nat → Int} (h : wh2 t) (e : ∀ j, j < 52 → t2 j = t j) : wh2 t2 := by
  refine ⟨by rw [e 0 (by decide)]; exact h.1, fun k hk h1 => ?_⟩
  rw [e 1 (by decide)] at h1
  rw [e _ (by omega), e (21 + 2 * k) (by omega), e 0 (by decide)]
  exact h.2 k hk h1
theorem pRd_h {u : Nat → Int} {N of : Nat} {t0 : Nat → Int} (hof : of ≤ 2) (hN : N ≤ 600) (ht : ∀ j, j < 121 → t0 j = tI of j) (h0 : (pRd u N of 700 0 (0, -1) t0 (-1) (-1)).1.1 = 0) : (of = 0 → wh0 (pRd u N of 700 0 (0, -1) t0 (-1) (-1)).2) ∧ (of = 2 → wh2 (pRd u N of 700 0 (0, -1) t0 (-1) (-1)).2) := by
  obtain ⟨c, o, w1, w2, w3⟩ := pRd_w (u := u) (N := N) hof 700 0 (0, -1) t0 (-1) (-1) (by omega) (by omega) (fun _ => ⟨tI_W hof ht, cI_0 hof ht⟩) h0
  generalize (pRd u N of 700 0 (0, -1) t0 (-1) (-1)).2 = t at *
  refine ⟨fun e => ?_, fun e => ?_⟩
  · obtain ⟨i1, i2, -, -⟩ := w2.1 e
    have hc : ¬ (t 0 * t 1 ≤ c) := fun w => w3 (Or.inl ⟨e, Or.inl w⟩)
    refine ⟨fun k _ hk => ?_, fun k _ hk => ?_⟩
    · have := i1 k hk
      omega
    · have := i2 k hk
      omega
  · obtain ⟨i1, -⟩ := w2.2 e
    have hb := (w1.2.2 e).1
    have h1 : ¬ t 0 = 0 := fun w => w3 (Or.inr ⟨e, Or.inl w⟩)
    have h2 : ¬ t 0 ≤ o := fun w => w3 (Or.inr ⟨e, Or.inr w⟩)
    refine ⟨by omega, fun k _ hk => ?_⟩
    obtain ⟨j1, j2⟩ := i1 k hk
    exact ⟨by omega, by omega⟩
/-! the told texts are whole, those of the images too: kept by every call of the reference -/
def WHk (κ : Nat) (g : yH) : Prop := (∀ i : Nat, i < 2 → (i : Int) < g 4 (3 * κ) → wh0 (fun j => g 5 (100 * κ + 50 * i + j))) ∧ ∀ i : Nat, i < 2 → (i : Int) < g 4 (3 * κ + 2) → wh2 (fun j => g 7 (104 * κ + 52 * i + j))
def WH (g : yH) : Prop := ∀ κ, κ < 4 → WHk κ g
theorem WHk.c {κ κ2 : Nat} {g g2 : yH} (h : WHk κ g) (e4 : ∀ j, j < 3 → g2 4 (3 * κ2 + j) = g 4 (3 * κ + j)) (e5 : ∀ j, j < 100 → g2 5 (100 * κ2 + j) = g 5 (100 * κ + j)) (e7 : ∀ j, j < 104 → g2 7 (104 * κ2 + j) = g 7 (104 * κ + j)) : WHk κ2 g2 := by
  refine ⟨fun i hi w => ?_, fun i hi w => ?_⟩
  · have e := e4 0 (by decide)
    rw [Nat.add_zero, Nat.add_zero] at e
    rw [e] at w
    refine (h.1 i hi w).c (fun j hj => ?_)
    show g2 5 (100 * κ2 + 50 * i + j) = g 5 (100 * κ + 50 * i + j)
    rw [Nat.add_assoc, e5 _ (by omega), Nat.add_assoc]
  · rw [e4 2 (by decide)] at w
    refine (h.2 i hi w).c (fun j hj => ?_)
    show g2 7 (104 * κ2 + 52 * i + j) = g 7 (104 * κ + 52 * i + j)
    rw [Nat.add_assoc, e7 _ (by omega), Nat.add_assoc]
theorem WH.fr {g g2 : yH} (h : WH g) (e : ∀ a j, a = 4 ∨ a = 5 ∨ a = 7 → g2 a j = g a j) : WH g2 := fun κ hκ => (h κ hκ).c (fun j _ => e _ _ (by omega)) (fun j _ => e _ _ (by omega)) (fun j _ => e _ _ (by omega))
theorem WH.ra {f t : Nat} {g g2 : yH} (h : WH g) (hf : f < 4) (hr : raR f t g g2) : WH g2 := by
  obtain ⟨-, -, -, -, r4, r5, -, r7, -, -, s4, s5, -, s7, -⟩ := hr
  intro κ hκ
  by_cases q : κ = t
  · subst q
    exact (h f hf).c r4 r5 r7
  · exact (h κ hκ).c (fun j hj => s4 _ (by omega)) (fun j hj => s5 _ (by omega)) (fun j hj => s7 _ (by omega))
theorem yO_d {r : yO} {v : Int} {g2 : yH} {P : Int → yH → Prop} (e : r = some (v, g2)) (h : yR r P) : P v g2 := by
  obtain ⟨v', g', e', p⟩ := h
  have q := Option.some.inj (e.symm.trans e')
  rw [show v = v' from congrArg Prod.fst q, show g2 = g' from congrArg Prod.snd q]
  exact p
theorem rBd.c0 {g : yH} (gb : rBd g) : rBd (zup g 35 0 0) := fun a ha j hj => by
  rw [zup_ne (by omega)]
  exact gb a ha j hj
theorem frH_image {m : Nat} {x v : Int} {g g2 : yH} (hn : 1000 ≤ m) (gP : rP g) (gb : rBd g) (p63 : g 35 63 = 34) (e : f_X12_image m [35, x] g = some (v, g2)) (h : WH g) : WH g2 := by
  refine yO_d (P := fun _ g2 => WH g2) e (yR.e e_X12_image ?_)
  have h0 : WH (zup g 35 0 0) := h.fr (fun a j w => zup_ne (by omega))
  by_cases w : 0 ≤ x ∧ x ≤ 2
  · rw [in_t w, xb_some, if_neg (by decide), xg_pos (by omega)]
    have c := call_e (n := m) (f := 0) (t := x.toNat + 1) hn (gP.fr (h2 := zup g 35 0 0) (fun j hj => by rw [zup_ne (by omega)])) gb.c0 (by decide) (by omega) (by omega)
    rw [show ((0 : Nat) : Int) = 0 from rfl, show ((x.toNat + 1 : Nat) : Int) = x + 1 by omega] at c
    refine yR.b c (fun v1 g1 hr => ?_)
    have c1 : g1 35 63 = 34 := by
      obtain ⟨-, -, -, -, -, -, -, -, -, -, -, -, -, -, r8⟩ := hr
      rw [r8 35 63 (by decide), zup_ne (by omega)]
      exact p63
    rw [xg_pos c1, xg_pos (by omega)]
    exact yR.s ((h0.ra (by decide) hr).fr (fun a j w => zup_ne (by omega)))
  · rw [in_f w, xb_some, if_pos rfl]
    exact yR.s h0
theorem frH_again {m : Nat} {x v : Int} {g g2 : yH} (hn : 1000 ≤ m) (gP : rP g) (gb : rBd g) (p63 : g 35 63 = 34) (e : f_X12_again m [35, x] g = some (v, g2)) (h : WH g) : WH g2 := by
  refine yO_d (P := fun _ g2 => WH g2) e (yR.e e_X12_again ?_)
  have h0 : WH (zup g 35 0 0) := h.fr (fun a j w => zup_ne (by omega))
  by_cases w : 0 ≤ x ∧ x ≤ 2
  · rw [in_t w, xb_some, if_neg (by decide), xg_pos (by rw [zup_ne (by omega)]; exact p63), xg_pos (by omega)]
    by_cases c1 : (zup g 35 0 0) 34 x.toNat = 0
    · rw [if_pos c1]
      exact yR.s h0
    · rw [if_neg c1, xg_pos (by omega)]
      have c := call_e (n := m) (f := x.toNat + 1) (t := 0) hn (gP.fr (h2 := zup g 35 0 0) (fun j hj => by rw [zup_ne (by omega)])) gb.c0 (by omega) (by decide) (by omega)
      rw [show ((0 : Nat) : Int) = 0 from rfl, show ((x.toNat + 1 : Nat) : Int) = x + 1 by omega] at c
      refine yR.b c (fun v1 g1 hr => ?_)
      exact yR.s (h0.ra (by omega) hr)
  · rw [in_f w, xb_some, if_pos rfl]
    exact yR.s h0
theorem frH_feed {n : Nat} {x1 x2 x3 x4 x5 v : Int} {g g2 : yH} (hn : 6 ≤ n) (gP : rP g) (h1 : 0 ≤ g 1 0 ∧ g 1 0 ≤ 600) (e : f_X12_feed n [35, x1, x2, x3, x4, x5] g = some (v, g2)) (h : WH g) : WH g2 := by
  obtain ⟨m, em⟩ : ∃ m : Nat, g 1 0 = (m : Int) := ⟨(g 1 0).toNat, by omega⟩
  obtain ⟨-, r⟩ := yO_d e (feedR_r (x1 := x1) (x2 := x2) (x3 := x3) (x4 := x4) (x5 := x5) hn gP em (by omega))
  rcases r with ⟨-, -, r⟩ | ⟨-, -, -, r⟩
  · rw [r]
    exact h.fr (fun a j w => zup_ne (by omega))
  · exact h.fr (fun a j w => by rw [r a j (by omega), if_neg (by omega), zup_ne (by omega)])
theorem frH_end {n : Nat} {x v : Int} {g g2 : yH} (gP : rP g) (h1 : 0 ≤ g 1 0 ∧ g 1 0 ≤ 600) (e : f_X12_end n [35, x] g = some (v, g2)) (h : WH g) : WH g2 := by
  rcases yO_d e (endR_r (x := x) gP h1) with ⟨-, -, r⟩ | ⟨-, -, r⟩
  · rw [r]
    exact h.fr (fun a j w => zup_ne (by omega))
  · rw [r]
    exact h.fr (fun a j w => by rw [zup_ne (by omega), zup_ne (by omega)])
theorem frH_text {n : Nat} {sort at_ v : Int} {g g2 : yH} (hn : 2600 ≤ n) (gP : rP g) (h1 : 0 ≤ g 1 0 ∧ g 1 0 ≤ 600) (hm : ∀ j, j < 12 → 0 ≤ g 4 j ∧ g 4 j ≤ 2) (e : f_X12_text n [35, sort, at_] g = some (v, g2)) (h : WH g) : WH g2 := by
  obtain ⟨t0, v', g', ht, e', r⟩ := text_e (sort := sort) (at_ := at_) hn gP h1 hm
  have q := Option.some.inj (e.symm.trans e')
  rw [show g2 = g' from congrArg Prod.snd q]
  obtain ⟨-, -, -, -, -, -, -, r⟩ := r
  rcases r with ⟨-, -, -, -, r⟩ | ⟨kn, -, -, ⟨-, -, r⟩ | ⟨w0, -, wf, r⟩⟩
  · exact h.fr (fun a j w => r a j (by omega))
  · exact h.fr (fun a j w => r a j (by omega))
  · have k2 := txK_b (fun j hj => hm j (by omega)) kn
    obtain ⟨p0, p2⟩ := pRd_h (u := uR g) (N := (g 1 0).toNat) (of := sort.toNat) (by omega) (by omega) ht w0
    generalize (pRd (uR g) (g 1 0).toNat sort.toNat 700 0 (0, -1) t0 (-1) (-1)).2 = t at *
    obtain ⟨K, hK⟩ : ∃ K : Nat, (txK (g 4) sort at_).toNat = K := ⟨_, rfl⟩
    rw [hK] at r
    have hK2 : K < 2 := by omega
    have hof : sort.toNat ≤ 2 := by omega
    generalize sort.toNat = of at *
    have z4 : ∀ j, j ≠ of → g' 4 j = g 4 j := fun j w => by
      rw [r 4 j (by omega)]
      unfold txS
      rw [if_neg (by omega), if_neg (by omega), if_neg (by omega), if_neg (by omega)]
    have zo : g' 4 of = if g 4 of = (K : Int) then g 4 of + 1 else g 4 of := by
      rw [r 4 of (by omega)]
      unfold txS
      rw [if_pos ⟨rfl, rfl⟩]
    have z5 : ∀ j, ¬ (of = 0 ∧ 50 * K ≤ j ∧ j < 50 * K + 50) → g' 5 j = g 5 j := fun j w => by
      rw [r 5 j (by omega)]
      unfold txS
      rw [if_neg (by omega), if_neg (by omega), if_neg (by omega), if_neg (by omega)]
    have z5t : of = 0 → ∀ j, j < 50 → g' 5 (50 * K + j) = t j := fun w j hj => by
      rw [r 5 _ (by omega)]
      unfold txS
      rw [if_neg (by omega), if_pos (by omega), show 50 * K + j - 50 * K = j by omega]
    have z7 : ∀ j, ¬ (of = 2 ∧ 52 * K ≤ j ∧ j < 52 * K + 52) → g' 7 j = g 7 j := fun j w => by
      rw [r 7 j (by omega)]
      unfold txS
      rw [if_neg (by omega), if_neg (by omega), if_neg (by omega), if_neg (by omega)]
    have z7t : of = 2 → ∀ j, j < 52 → g' 7 (52 * K + j) = t j := fun w j hj => by
      rw [r 7 _ (by omega)]
      unfold txS
      rw [if_neg (by omega), if_neg (by omega), if_neg (by omega), if_pos (by omega), show 52 * K + j - 52 * K = j by omega]
    intro κ hκ
    by_cases q0 : κ = 0
    · subst q0
      obtain ⟨h0, h2⟩ := h 0 (by decide)
      refine ⟨fun i hi w => ?_, fun i hi w => ?_⟩
      · by_cases qi : of = 0 ∧ i = K
        · refine (p0 qi.1).c (fun j hj => ?_)
          show g' 5 (100 * 0 + 50 * i + j) = t j
          rw [← z5t qi.1 j hj, qi.2, show 100 * 0 + 50 * K + j = 50 * K + j by omega]
        · have w' : (i : Int) < g 4 (3 * 0) := by
            by_cases qo : of = 0
            · rw [show 3 * 0 = of by omega, zo] at w
              rw [show 3 * 0 = of by omega]
              split at w <;> omega
            · rw [z4 _ (by omega)] at w
              exact w
          exact (h0 i hi w').c (fun j hj => z5 _ (by omega))
      · by_cases qi : of = 2 ∧ i = K
        · refine (p2 qi.1).c (fun j hj => ?_)
          show g' 7 (104 * 0 + 52 * i + j) = t j
          rw [← z7t qi.1 j hj, qi.2, show 104 * 0 + 52 * K + j = 52 * K + j by omega]
        · have w' : (i : Int) < g 4 (3 * 0 + 2) := by
            by_cases qo : of = 2
            · rw [show 3 * 0 + 2 = of by omega, zo] at w
              rw [show 3 * 0 + 2 = of by omega]
              split at w <;> omega
            · rw [z4 _ (by omega)] at w
              exact w
          exact (h2 i hi w').c (fun j hj => z7 _ (by omega))
    · exact (h κ hκ).c (fun j hj => z4 _ (by omega)) (fun j hj => z5 _ (by omega)) (fun j hj => z7 _ (by omega))
end
section
/-! beside a cell -/
def besV (W H p s : Int) : Int := if s = 0 then (if 0 < p / W then p - W else -1) else if s = 1 then (if p % W < W - 1 then p + 1 else -1) else if s = 2 then (if p / W < H - 1 then p + W else -1) else if s = 3 then (if 0 < p % W then p - 1 else -1) else -1
theorem W_c {W : Int} (h : 2 ≤ W ∧ W ≤ 8) : W = 2 ∨ W = 3 ∨ W = 4 ∨ W = 5 ∨ W = 6 ∨ W = 7 ∨ W = 8 := by omega
theorem besV_b {W H p s : Int} (hW : 2 ≤ W ∧ W ≤ 8) (hH : 2 ≤ H ∧ H ≤ 8) (hp : 0 ≤ p ∧ p < W * H) : besV W H p s = -1 ∨ (0 ≤ besV W H p s ∧ besV W H p s < W * H) := by
  unfold besV
  rcases W_c hW with rfl | rfl | rfl | rfl | rfl | rfl | rfl <;>
  · split
    · split <;> omega
    · split
      · split <;> omega
      · split
        · split <;> omega
        · split
          · split <;> omega
          · omega
theorem pW_63 {W H p : Int} (hW : 2 ≤ W ∧ W ≤ 8) (hH : 2 ≤ H ∧ H ≤ 8) (hp : 0 ≤ p ∧ p < W * H) : 0 ≤ p ∧ p ≤ 63 := by
  have := Int.mul_le_mul hW.2 hH.2 (by omega) (by omega)
  have e : (8 : Int) * 8 = 64 := by decide
  omega
theorem besC_e {n b : Nat} {p s W H : Int} {h : yH} (h0 : h b 0 = W) (h1 : h b 1 = H) (hW : 2 ≤ W ∧ W ≤ 8) (hH : 2 ≤ H ∧ H ≤ 8) (hp : 0 ≤ p ∧ p < W * H) : f_X6_beside n [(b : Int), p, s] h = some (besV W H p s, h) := by
  have p63 := pW_63 hW hH hp
  obtain ⟨q1, q2⟩ := yqr p63 (show 1 ≤ W ∧ W ≤ 8 by omega)
  obtain ⟨b1, b2⟩ := yqr_b p63 (show 1 ≤ W ∧ W ≤ 8 by omega)
  rw [e_X6_beside, e_X6_rowOf, Int.toNat_natCast, h0, if_neg (by omega), xg_pos (by omega), xb_some, e_X6_columnOf, Int.toNat_natCast, h0, if_neg (by omega), xg_pos (by omega), xb_some, h0, h1, q1, q2]
  unfold besV
  by_cases c0 : s = 0
  · rw [if_pos c0, if_pos c0]
    by_cases c : 0 < p / W
    · rw [if_pos c, if_pos c, xg_pos (by omega)]
    · rw [if_neg c, if_neg c]
  rw [if_neg c0, if_neg c0]
  by_cases c1 : s = 1
  · rw [if_pos c1, if_pos c1, xg_pos (by omega)]
    by_cases c : p % W < W - 1
    · rw [if_pos c, if_pos c, xg_pos (by omega)]
    · rw [if_neg c, if_neg c]
  rw [if_neg c1, if_neg c1]
  by_cases c2 : s = 2
  · rw [if_pos c2, if_pos c2, xg_pos (by omega)]
    by_cases c : p / W < H - 1
    · rw [if_pos c, if_pos c, xg_pos (by omega)]
    · rw [if_neg c, if_neg c]
  rw [if_neg c2, if_neg c2]
  by_cases c3 : s = 3
  · rw [if_pos c3, if_pos c3]
    by_cases c : 0 < p % W
    · rw [if_pos c, if_pos c, xg_pos (by omega)]
    · rw [if_neg c, if_neg c]
  rw [if_neg c3, if_neg c3]
theorem drC_e {n b : Nat} {p s W H : Int} {h : yH} (h0 : h b 0 = W) (h1 : h b 1 = H) (hW : 2 ≤ W ∧ W ≤ 8) (hH : 2 ≤ H ∧ H ≤ 8) (hp : 0 ≤ p ∧ p < W * H) : f_X6_drifted n [(b : Int), p, s] h = some (if besV W H p s = -1 then p else besV W H p s, h) := by
  rw [e_X6_drifted, besC_e h0 h1 hW hH hp, xb_some]
  by_cases c : besV W H p s = -1
  · rw [if_pos c, if_pos c]
  · rw [if_neg c, if_neg c]
theorem besV_0 {W H p : Int} : besV W H p 0 = (if 0 < p / W then p - W else -1) := if_pos rfl
theorem besV_1 {W H p : Int} : besV W H p 1 = (if p % W < W - 1 then p + 1 else -1) := by
  unfold besV
  rw [if_neg (by decide), if_pos rfl]
theorem besV_2 {W H p : Int} : besV W H p 2 = (if p / W < H - 1 then p + W else -1) := by
  unfold besV
  rw [if_neg (by decide), if_neg (by decide), if_pos rfl]
theorem besV_3 {W H p : Int} : besV W H p 3 = (if 0 < p % W then p - 1 else -1) := by
  unfold besV
  rw [if_neg (by decide), if_neg (by decide), if_neg (by decide), if_pos rfl]
theorem besR_51 {n : Nat} {x1 x2 x dy y W H : Int} {g : yH} (h24 : g 35 24 = W) (h25 : g 35 25 = H) (hW : 2 ≤ W ∧ W ≤ 8) (hH : 2 ≤ H ∧ H ≤ 8) (hx : -1 ≤ x ∧ x ≤ 8) (hy : -1 ≤ y + dy ∧ y + dy ≤ 64) : xq_X12_beside_51 n [35, x1, x2, x, dy, y] g = some (if (0 ≤ x ∧ x ≤ W - 1) ∧ 0 ≤ y + dy ∧ y + dy ≤ H - 1 then (y + dy) * W + x else -1, g) := by
  rw [e_X12_beside_51, h24, xg_pos (by omega), xg_pos (by omega)]
  by_cases c1 : 0 ≤ x ∧ x ≤ W - 1
  · rw [in_t c1, xb_some, if_neg (by decide), h25, xg_pos (by omega)]
    by_cases c2 : 0 ≤ y + dy ∧ y + dy ≤ H - 1
    · have m1 := Int.mul_le_mul (show y + dy ≤ 7 by omega) hW.2 (by omega) (by omega)
      have m0 := Int.mul_nonneg c2.1 (show 0 ≤ W by omega)
      have e : (7 : Int) * 8 = 56 := by decide
      rw [in_t c2, xb_some, if_neg (by decide), h24, if_pos ⟨c1, c2⟩]
      generalize (y + dy) * W = z at *
      rw [xg_pos (by omega), xg_pos (by omega)]
    · rw [in_f c2, xb_some, if_pos rfl, if_neg (fun q => c2 q.2)]
  · rw [in_f c1, xb_some, if_pos rfl, if_neg (fun q => c1 q.1)]
theorem besR_e {n : Nat} {p s W H : Int} {g : yH} (h24 : g 35 24 = W) (h25 : g 35 25 = H) (hW : 2 ≤ W ∧ W ≤ 8) (hH : 2 ≤ H ∧ H ≤ 8) (hp : 0 ≤ p ∧ p < W * H) (hs : 0 ≤ s ∧ s ≤ 3) : f_X12_beside n [35, p, s] g = some (besV W H p s, g) := by
  have p63 := pW_63 hW hH hp
  obtain ⟨q1, q2⟩ := yqr p63 (show 1 ≤ W ∧ W ≤ 8 by omega)
  obtain ⟨b1, b2⟩ := yqr_b p63 (show 1 ≤ W ∧ W ≤ 8 by omega)
  have fin : ∀ x dy : Int, -1 ≤ dy ∧ dy ≤ 1 → -1 ≤ x ∧ x ≤ 8 → xq_X12_beside_51 n [35, p, s, x, dy, p / W] g = some (if (0 ≤ x ∧ x ≤ W - 1) ∧ 0 ≤ p / W + dy ∧ p / W + dy ≤ H - 1 then (p / W + dy) * W + x else -1, g) := fun x dy h1 h2 => besR_51 h24 h25 hW hH h2 (by omega)
  rw [e_X12_beside, h24, xg_pos (by omega), q2]
  rcases (show s = 0 ∨ s = 1 ∨ s = 2 ∨ s = 3 by omega) with rfl | rfl | rfl | rfl
  · rw [if_neg (by decide), if_neg (by decide), e_X12_beside_25, h24, xg_pos (by omega), xg_pos (by omega), if_neg (by decide), if_pos rfl, q1, fin _ _ (by omega) (by omega)]
    congr 2
    rw [besV_0]
    rcases W_c hW with rfl | rfl | rfl | rfl | rfl | rfl | rfl <;>
    · split <;> split <;> omega
  · rw [if_pos rfl, e_X12_beside_25, h24, xg_pos (by omega), xg_pos (by omega), if_neg (by decide), if_neg (by decide), q1, fin _ _ (by omega) (by omega)]
    congr 2
    rw [besV_1]
    rcases W_c hW with rfl | rfl | rfl | rfl | rfl | rfl | rfl <;>
    · split <;> split <;> omega
  · rw [if_neg (by decide), if_neg (by decide), e_X12_beside_25, h24, xg_pos (by omega), xg_pos (by omega), if_pos rfl, q1, fin _ _ (by omega) (by omega)]
    congr 2
    rw [besV_2]
    rcases W_c hW with rfl | rfl | rfl | rfl | rfl | rfl | rfl <;>
    · split <;> split <;> omega
  · rw [if_neg (by decide), if_pos rfl, e_X12_beside_25, h24, xg_pos (by omega), xg_pos (by omega), if_neg (by decide), if_neg (by decide), q1, fin _ _ (by omega) (by omega)]
    congr 2
    rw [besV_3]
    rcases W_c hW with rfl | rfl | rfl | rfl | rfl | rfl | rfl <;>
    · split <;> split <;> omega
end
section
/-! drifting; meet -/
def drV (W H p s : Int) : Int := if besV W H p s = -1 then p else besV W H p s
theorem drV_b {W H p s : Int} (hW : 2 ≤ W ∧ W ≤ 8) (hH : 2 ≤ H ∧ H ≤ 8) (hp : 0 ≤ p ∧ p < W * H) : 0 ≤ drV W H p s ∧ drV W H p s < W * H := by
  unfold drV
  by_cases c : besV W H p s = -1
  · rw [if_pos c]; exact hp
  · rw [if_neg c]
    rcases besV_b (s := s) hW hH hp with w | w
    · exact absurd w c
    · exact w
theorem besV_4 {W H p : Int} : besV W H p 4 = -1 := by
  unfold besV
  rw [if_neg (by decide), if_neg (by decide), if_neg (by decide), if_neg (by decide)]
theorem drV_4 {W H p : Int} : drV W H p 4 = p := by
  unfold drV
  rw [if_pos besV_4]
theorem drift_l {W H : Int} {S : Nat} {pos drv : Nat → Int} (hW : 2 ≤ W ∧ W ≤ 8) (hH : 2 ≤ H ∧ H ≤ 8) (hS : S ≤ 6) (hpos : ∀ i, i < S → 0 ≤ pos i ∧ pos i < W * H) (hdrv : ∀ i, i < S → 0 ≤ drv i ∧ drv i ≤ 4) : ∀ (m k n : Nat) (g : yH), k + m = S → m < n → rQ g → g 35 24 = W → g 35 25 = H → g 35 35 = (S : Int) → (∀ i, k ≤ i → i < S → g 13 i = pos i) → (∀ i, k ≤ i → i < S → g 15 i = drv i) →
    ∃ g2, xl_X12_driftAll n 2 [35, (k : Int)] g = some (0, g2) ∧ (∀ i, k ≤ i → i < S → g2 13 i = drV W H (pos i) (drv i)) ∧ ∀ a j, ¬ (a = 13 ∧ k ≤ j ∧ j < S) → g2 a j = g a j := by
  intro m
  induction m with
  | zero =>
    intro k n g e1 e2 hq h24 h25 h35 hp hd
    obtain ⟨n, rfl⟩ : ∃ n', n = n' + 1 := ⟨n - 1, by omega⟩
    refine ⟨g, ?_, fun i h1 h2 => by omega, fun _ _ _ => rfl⟩
    rw [e_X12_driftAll_2, h35, if_neg (by omega)]
  | succ m ih =>
    intro k n g e1 e2 hq h24 h25 h35 hp hd
    obtain ⟨n, rfl⟩ : ∃ n', n = n' + 1 := ⟨n - 1, by omega⟩
    have P : ∀ {j : Nat} {kk : Int}, (j, kk) ∈ rQL → g 35 j = kk := fun hm => hq.p hm
    have bp := hpos k (by omega)
    have bd := hdrv k (by omega)
    have key : xl_X12_driftAll (n + 1) 2 [35, (k : Int)] g = xl_X12_driftAll n 2 [35, ((k + 1 : Nat) : Int)] (zup g 13 k (drV W H (pos k) (drv k))) := by
      rw [e_X12_driftAll_2, h35, if_pos (by omega), xg_pos (P (j := 38) (kk := 15) (by decide)), xg_pos (by omega), Int.toNat_natCast, hd k (Nat.le_refl _) (by omega)]
      by_cases c4 : drv k = 4
      · rw [if_pos c4, e_X12_driftAll_40, xg_pos (P (j := 36) (kk := 13) (by decide)), if_pos rfl, xg_pos (P (j := 36) (kk := 13) (by decide)), xg_pos (by omega), xg_pos (by omega), xg_pos (by omega), Int.toNat_natCast, hp k (Nat.le_refl _) (by omega), c4, drV_4, show (k : Int) + 1 = ((k + 1 : Nat) : Int) by omega]
      · rw [if_neg c4, xg_pos (P (j := 36) (kk := 13) (by decide)), xg_pos (by omega), xg_pos (P (j := 38) (kk := 15) (by decide)), xg_pos (by omega), hp k (Nat.le_refl _) (by omega), besR_e h24 h25 hW hH bp (by omega), xb_some, e_X12_driftAll_40, xg_pos (P (j := 36) (kk := 13) (by decide))]
        unfold drV
        by_cases c : besV W H (pos k) (drv k) = -1
        · rw [if_pos c, if_pos c, xg_pos (P (j := 36) (kk := 13) (by decide)), xg_pos (by omega), xg_pos (by omega), xg_pos (by omega), Int.toNat_natCast, hp k (Nat.le_refl _) (by omega), show (k : Int) + 1 = ((k + 1 : Nat) : Int) by omega]
        · rw [if_neg c, if_neg c, xg_pos (by omega), xg_pos (by omega), Int.toNat_natCast, show (k : Int) + 1 = ((k + 1 : Nat) : Int) by omega]
    obtain ⟨g2, f1, f2, f3⟩ := ih (k + 1) n (zup g 13 k (drV W H (pos k) (drv k))) (by omega) (by omega) (hq.up (Or.inl (by decide))) (by rw [zup_ne (by omega)]; exact h24) (by rw [zup_ne (by omega)]; exact h25) (by rw [zup_ne (by omega)]; exact h35) (fun i h1 h2 => by rw [zup_ne (by omega)]; exact hp i (by omega) h2) (fun i h1 h2 => by rw [zup_ne (by omega)]; exact hd i (by omega) h2)
    refine ⟨g2, key.trans f1, fun i h1 h2 => ?_, fun a j w => by rw [f3 a j (by omega), zup_ne (by omega)]⟩
    by_cases q : i = k
    · rw [q, f3 13 k (by omega), zup_at]
    · exact f2 i (by omega) h2
theorem drift_e {n S : Nat} {W H : Int} {pos drv : Nat → Int} {g : yH} (hn : 7 ≤ n) (hW : 2 ≤ W ∧ W ≤ 8) (hH : 2 ≤ H ∧ H ≤ 8) (hS : S ≤ 6) (hpos : ∀ i, i < S → 0 ≤ pos i ∧ pos i < W * H) (hdrv : ∀ i, i < S → 0 ≤ drv i ∧ drv i ≤ 4) (hq : rQ g) (h24 : g 35 24 = W) (h25 : g 35 25 = H) (h35 : g 35 35 = (S : Int)) (hp : ∀ i, i < S → g 13 i = pos i) (hd : ∀ i, i < S → g 15 i = drv i) : ∃ g2, f_X12_driftAll n [35] g = some (0, g2) ∧ (∀ i, i < S → g2 13 i = drV W H (pos i) (drv i)) ∧ ∀ a j, ¬ (a = 13 ∧ j < S) → g2 a j = g a j := by
  rw [e_X12_driftAll]
  obtain ⟨g2, f1, f2, f3⟩ := drift_l hW hH hS hpos hdrv S 0 n g (by omega) (by omega) hq h24 h25 h35 (fun i _ h => hp i h) (fun i _ h => hd i h)
  exact ⟨g2, f1, fun i h => f2 i (Nat.zero_le _) h, fun a j w => f3 a j (by omega)⟩
/-- where shoal k is at an hour -/
def dps (t : Nat → Int) (k : Nat) : Nat → Int
  | 0 => t (19 + 3 * k)
  | n + 1 => drV (t 0) (t 1) (dps t k n) (t (21 + 3 * k))
theorem dps_b {t : Nat → Int} {k : Nat} (hW : tW0 t) (hh : wh0 t) (hk : (k : Int) < t 5) : ∀ n, 0 ≤ dps t k n ∧ dps t k n < t 0 * t 1 := by
  have w5 := hW.sl
  have sk := hW.sh (k := k) (by omega)
  intro n
  induction n with
  | zero => exact ⟨sk.1.1, hh.1 k (by omega) hk⟩
  | succ n ih => exact drV_b hW.1 hW.2.1 ih
def mtA (t : Nat → Int) (a b : Nat) : Nat → Nat → Int
  | 0, _ => -1
  | m + 1, v => if dps t a v = dps t b v then (v : Int) else mtA t a b m (v + 1)
theorem meetC_l {b a k : Nat} {x1 : Int} {t : Nat → Int} {h : yH} (hS : cS b t h) (hp : cSp b h) (hW : tW0 t) (hh : wh0 t) (ha : (a : Int) < t 5) (hk : (k : Int) < t 5) : ∀ (m v n : Nat), m + v = 61 → m < n → xl_X11_meet n 61 [1, x1, (a : Int), (k : Int), (b : Int), dps t a v, dps t k v, (v : Int)] h = some (mtA t a k m v, h) := by
  have w5 := hW.sl
  intro m
  induction m with
  | zero =>
    intro v n e1 e2
    obtain ⟨n, rfl⟩ : ∃ n', n = n' + 1 := ⟨n - 1, by omega⟩
    rw [e_X11_meet_61, if_pos (by omega)]
    rfl
  | succ m ih =>
    intro v n e1 e2
    obtain ⟨n, rfl⟩ : ∃ n', n = n' + 1 := ⟨n - 1, by omega⟩
    have e4 : ((b : Int) + 4).toNat = b + 4 := by omega
    rw [e_X11_meet_61, if_neg (by omega), Int.toNat_natCast, Int.toNat_natCast, Int.toNat_natCast, e4]
    show _ = some (if dps t a v = dps t k v then (v : Int) else mtA t a k m (v + 1), h)
    by_cases c : dps t a v = dps t k v
    · rw [if_pos c, if_pos c]
    · rw [if_neg c, if_neg c, xg_pos (by omega), xg_pos (by omega), xg_pos hp.2.2.2.1, xg_pos (by omega), (hS.2.2.2.2.2.2.2.2.2.1 a ha).2.2, drC_e hS.1 hS.2.1 hW.1 hW.2.1 (dps_b hW hh ha v), xb_some, xg_pos (by omega), xg_pos (by omega), xg_pos hp.2.2.2.1, xg_pos (by omega), (hS.2.2.2.2.2.2.2.2.2.1 k hk).2.2, drC_e hS.1 hS.2.1 hW.1 hW.2.1 (dps_b hW hh hk v), xb_some, xg_pos (by omega), show (v : Int) + 1 = ((v + 1 : Nat) : Int) by omega]
      exact ih (v + 1) n (by omega) (by omega)
/-- what meet answers -/
def metV (t : Nat → Int) (x y : Int) : Int := if x ≠ y ∧ (0 ≤ x ∧ x < t 5) ∧ 0 ≤ y ∧ y < t 5 then mtA t x.toNat y.toNat 61 0 else -1
theorem meetC_e {n s : Nat} {x y : Int} {t : Nat → Int} {h : yH} (hn : 70 ≤ n) (hP : cP h) (hb : h 6 0 ≤ 2) (hs : (s : Int) < h 6 0) (hS : cS (20 + 10 * s) t h) (hp : cSp (20 + 10 * s) h) (hW : tW0 t) (hh : wh0 t) : f_X11_meet n [1, (s : Int), x, y] h = some (metV t x y, h) := by
  have w5 := hW.sl
  rw [e_X11_meet, xg_pos (hP.p (by decide)), findSea_e hP hb, xb_some, if_pos (show 0 ≤ (s : Int) ∧ (s : Int) < h 6 0 by omega), if_neg (by omega)]
  unfold metV
  by_cases c0 : x = y
  · rw [if_pos c0, if_neg (fun w => w.1 c0)]
  rw [if_neg c0, xg_pos (by omega), show 20 + 10 * (s : Int) = ((20 + 10 * s : Nat) : Int) by omega, hasShoal_e hS, xb_some]
  by_cases c : 0 ≤ x ∧ x < t 5
  · rw [if_pos c, if_neg (by decide), xg_pos (by omega), hasShoal_e hS, xb_some]
    by_cases c2 : 0 ≤ y ∧ y < t 5
    · obtain ⟨a, rfl⟩ : ∃ a : Nat, x = (a : Int) := ⟨x.toNat, by omega⟩
      obtain ⟨k, rfl⟩ : ∃ k : Nat, y = (k : Int) := ⟨y.toNat, by omega⟩
      have e2 : (((20 + 10 * s : Nat) : Int) + 2).toNat = 20 + 10 * s + 2 := by omega
      have l := meetC_l (x1 := (s : Int)) hS hp hW hh c.2 c2.2 61 0 n rfl (by omega)
      rw [if_pos c2, if_neg (by decide), if_pos ⟨c0, c, c2⟩, xg_pos (by omega), Int.toNat_natCast, Int.toNat_natCast, Int.toNat_natCast, e2, xg_pos hp.2.1, xg_pos (by omega), xg_pos (by omega), xg_pos hp.2.1, xg_pos (by omega), (hS.2.2.2.2.2.2.2.2.2.1 a c.2).1, (hS.2.2.2.2.2.2.2.2.2.1 k c2.2).1]
      exact l
    · rw [if_neg c2, if_pos rfl, if_neg (fun w => c2 w.2.2)]
  · rw [if_neg c, if_pos rfl, if_neg (fun w => c w.2.1)]
theorem meetR_l {a k : Nat} {x1 : Int} {t : Nat → Int} (hW : tW0 t) (hh : wh0 t) (ha : (a : Int) < t 5) (hk : (k : Int) < t 5) : ∀ (m v n : Nat) (g : yH), m + v = 61 → m + 8 ≤ n → rQ g → g 35 24 = t 0 → g 35 25 = t 1 → g 35 35 = t 5 → (∀ i : Nat, (i : Int) < t 5 → g 13 i = dps t i v ∧ g 15 i = t (21 + 3 * i)) →
    yR (xl_X12_meet n 39 [35, x1, (a : Int), (k : Int), (v : Int)] g) (fun r g2 => r = mtA t a k m v ∧ ∀ a j, a ≠ 13 → g2 a j = g a j) := by
  have w5 := hW.sl
  intro m
  induction m with
  | zero =>
    intro v n g e1 e2 hq h24 h25 h35 hs
    obtain ⟨n, rfl⟩ : ∃ n', n = n' + 1 := ⟨n - 1, by omega⟩
    rw [e_X12_meet_39, if_pos (by omega)]
    exact yR.s ⟨rfl, fun _ _ _ => rfl⟩
  | succ m ih =>
    intro v n g e1 e2 hq h24 h25 h35 hs
    obtain ⟨n, rfl⟩ : ∃ n', n = n' + 1 := ⟨n - 1, by omega⟩
    rw [e_X12_meet_39, if_neg (by omega), xg_pos (hq.p (j := 36) (k := 13) (by decide)), xg_pos (by omega), xg_pos (hq.p (j := 36) (k := 13) (by decide)), xg_pos (by omega), Int.toNat_natCast, Int.toNat_natCast, (hs a ha).1, (hs k hk).1]
    show yR _ (fun r g2 => r = (if dps t a v = dps t k v then (v : Int) else mtA t a k m (v + 1)) ∧ ∀ a j, a ≠ 13 → g2 a j = g a j)
    by_cases c : dps t a v = dps t k v
    · rw [if_pos c, if_pos c]
      exact yR.s ⟨rfl, fun _ _ _ => rfl⟩
    · obtain ⟨g2, f1, f2, f3⟩ := drift_e (n := n) (S := (t 5).toNat) (g := g) (pos := fun i => dps t i v) (drv := fun i => t (21 + 3 * i)) (by omega) hW.1 hW.2.1 (by omega) (fun i hi => dps_b hW hh (by omega) v) (fun i hi => by have := hW.sh (k := i) (by omega); exact this.2.2) hq h24 h25 (by rw [h35]; omega) (fun i hi => (hs i (by omega)).1) (fun i hi => (hs i (by omega)).2)
      rw [if_neg c, if_neg c, f1, xb_some, xg_pos (by omega), show (v : Int) + 1 = ((v + 1 : Nat) : Int) by omega]
      exact (ih (v + 1) n g2 (by omega) (by omega) (hq.fr (fun j _ => f3 _ _ (by omega))) (by rw [f3 _ _ (by omega)]; exact h24) (by rw [f3 _ _ (by omega)]; exact h25) (by rw [f3 _ _ (by omega)]; exact h35) (fun i hi => ⟨f2 i (by omega), by rw [f3 _ _ (by omega)]; exact (hs i hi).2⟩)).m (fun r g3 ⟨r1, r2⟩ => ⟨r1, fun a j w => (r2 a j w).trans (f3 a j (by omega))⟩)
theorem meetR_e {m s : Nat} {x y : Int} {t : Nat → Int} {g : yH} (hn : 80 ≤ m) (hq : rQ g) (h4 : ∀ j, j < 12 → 0 ≤ g 4 j ∧ g 4 j ≤ 2) (hs : (s : Int) < g 4 0) (ht : ∀ j, j < 50 → g 5 (50 * s + j) = t j) (hW : tW0 t) (hh : wh0 t) : yR (f_X12_meet m [35, (s : Int), x, y] g) (fun v g2 => v = metV t x y ∧ ∃ g1, lyR s t (zup g 35 0 0) g1 ∧ ∀ a j, a ≠ 13 → g2 a j = g1 a j) := by
  have w5 := hW.sl
  refine yR.e e_X12_meet ?_
  refine yR.b (layTold_e (by omega) (c0_q hq) (c0_4 h4) (by rw [zup_ne (by omega)]; exact hs) (fun j hj => by rw [zup_ne (by omega)]; exact ht j hj) hW) (fun v g1 ⟨rv, H⟩ => ?_)
  subst rv
  refine yR.f (by decide) ?_
  rw [isThere_e H.1 hW, xb_some]
  unfold metV
  by_cases c : 0 ≤ x ∧ x < t 5
  · rw [if_pos c, if_neg (by decide), isThere_e H.1 hW, xb_some]
    by_cases c2 : 0 ≤ y ∧ y < t 5
    · rw [if_pos c2, if_neg (by decide)]
      by_cases c0 : x = y
      · rw [if_pos c0, if_neg (fun w => w.1 c0)]
        exact yR.s ⟨rfl, g1, H, fun _ _ _ => rfl⟩
      · obtain ⟨a, rfl⟩ : ∃ a : Nat, x = (a : Int) := ⟨x.toNat, by omega⟩
        obtain ⟨k, rfl⟩ : ∃ k : Nat, y = (k : Int) := ⟨y.toNat, by omega⟩
        rw [if_neg c0, if_pos ⟨c0, c, c2⟩, Int.toNat_natCast, Int.toNat_natCast]
        obtain ⟨T1, T2, T3, T4⟩ := id H.1
        have l := meetR_l (x1 := (s : Int)) hW hh c.2 c2.2 61 0 m g1 rfl (by omega) T1.1.2.2.2 T1.2.2.1 T1.2.2.2.1 T3 (fun i hi => by
          obtain ⟨x1, x2, x3, -⟩ := T4 i (by omega)
          exact ⟨x1.trans (if_pos hi), x3.trans (if_pos hi)⟩)
        exact l.m (fun r g2 ⟨r1, r2⟩ => ⟨r1, g1, H, r2⟩)
    · rw [if_neg c2, if_pos rfl, if_neg (fun w => c2 w.2.2)]
      exact yR.s ⟨rfl, g1, H, fun _ _ _ => rfl⟩
  · rw [if_neg c, if_pos rfl, if_neg (fun w => c w.2.1)]
    exact yR.s ⟨rfl, g1, H, fun _ _ _ => rfl⟩
end
section
/-! a question to a sea leaves what is told -/
theorem WH.k7 {g g2 : yH} (h : WH g) (e : k7 g g2) : WH g2 := h.fr (fun a j w => e a j (by omega) (by omega))
theorem k7.c0 {g : yH} : k7 g (zup g 35 0 0) := fun a j w1 w2 => zup_ne (by omega)
theorem hdR.k7 {s : Nat} {t : Nat → Int} {g g2 : yH} (H : hdR s t (zup g 35 0 0) g2) : k7 g g2 := fun a j w1 w2 => by rw [H.2.2.2 a j (by omega) (by omega) (by omega), zup_ne (by omega)]
theorem lyR.k7 {s : Nat} {t : Nat → Int} {g g2 : yH} (H : lyR s t (zup g 35 0 0) g2) : k7 g g2 := fun a j w1 w2 => by rw [H.2.2.2 a j (by omega), zup_ne (by omega)]
theorem ask_k7 {r : yFn} {x v : Int} {As : List Int} {m : Nat} {h g g2 : yH} (R : RR True h g) (h4 : ∀ j, j < 12 → 0 ≤ g 4 j ∧ g 4 j ≤ 2) (e : r m (35 :: x :: As) g = some (v, g2)) (rn : ¬ (0 ≤ x ∧ x < g 4 0) → yR (r m (35 :: x :: As) g) (fun _ g2 => k7 g g2))
    (ask : ∀ (s : Nat) (t : Nat → Int), x = (s : Int) → (s : Int) < g 4 0 → tW0 t → (∀ j, j < 50 → g 5 (50 * s + j) = t j) → yR (r m (35 :: x :: As) g) (fun _ g2 => k7 g g2)) : k7 g g2 := by
  have b0 := h4 0 (by decide)
  by_cases w : 0 ≤ x ∧ x < g 4 0
  · obtain ⟨s, rfl⟩ : ∃ s : Nat, x = (s : Int) := ⟨x.toNat, by omega⟩
    obtain ⟨t, a1, a2, a3, a4⟩ := R.sea (s := s) (by omega) (by omega)
    exact yO_d e (ask s t rfl w.2 a4 a3)
  · exact yO_d e (rn w)
theorem frK_sea {m : Nat} {x w v : Int} {h g g2 : yH} (hn : 7 ≤ m) (R : RR True h g) (hq : rQ g) (h4 : ∀ j, j < 12 → 0 ≤ g 4 j ∧ g 4 j ≤ 2) (e : f_X12_sea m [35, x, w] g = some (v, g2)) : k7 g g2 :=
  ask_k7 R h4 e (fun c => ⟨-1, zup g 35 0 0, by rw [e_X12_sea, hand_n (c0_q hq) (c0_4 h4) (by rw [zup_ne (by omega)]; exact c), xb_some, if_pos rfl], k7.c0⟩) (fun s t ex hs hW ht => by subst ex; exact (seaR_e hn hq h4 hs ht hW).m (fun _ _ q => hdR.k7 q.2))
theorem frK_shoal {m : Nat} {x k w v : Int} {h g g2 : yH} (hn : 7 ≤ m) (R : RR True h g) (hq : rQ g) (h4 : ∀ j, j < 12 → 0 ≤ g 4 j ∧ g 4 j ≤ 2) (e : f_X12_shoal m [35, x, k, w] g = some (v, g2)) : k7 g g2 :=
  ask_k7 R h4 e (fun c => ⟨-1, zup g 35 0 0, by rw [e_X12_shoal, hand_n (c0_q hq) (c0_4 h4) (by rw [zup_ne (by omega)]; exact c), xb_some, if_pos rfl], k7.c0⟩) (fun s t ex hs hW ht => by subst ex; exact (shoalR_e hn hq h4 hs ht hW).m (fun _ _ q => hdR.k7 q.2))
theorem frK_boat {m : Nat} {x k w v : Int} {h g g2 : yH} (hn : 7 ≤ m) (R : RR True h g) (hq : rQ g) (h4 : ∀ j, j < 12 → 0 ≤ g 4 j ∧ g 4 j ≤ 2) (e : f_X12_boat m [35, x, k, w] g = some (v, g2)) : k7 g g2 :=
  ask_k7 R h4 e (fun c => ⟨-1, zup g 35 0 0, by rw [e_X12_boat, hand_n (c0_q hq) (c0_4 h4) (by rw [zup_ne (by omega)]; exact c), xb_some, if_pos rfl], k7.c0⟩) (fun s t ex hs hW ht => by subst ex; exact (boatR_e hn hq h4 hs ht hW).m (fun _ _ q => hdR.k7 q.2))
theorem frK_far {m : Nat} {x k w v : Int} {h g g2 : yH} (hn : 7 ≤ m) (R : RR True h g) (hq : rQ g) (h4 : ∀ j, j < 12 → 0 ≤ g 4 j ∧ g 4 j ≤ 2) (e : f_X12_far m [35, x, k, w] g = some (v, g2)) : k7 g g2 :=
  ask_k7 R h4 e (fun c => ⟨-1, zup g 35 0 0, by rw [e_X12_far, hand_n (c0_q hq) (c0_4 h4) (by rw [zup_ne (by omega)]; exact c), xb_some, if_pos rfl], k7.c0⟩) (fun s t ex hs hW ht => by subst ex; exact (farR_e hn hq h4 hs ht hW).m (fun _ _ q => hdR.k7 q.2))
theorem frK_loud {m : Nat} {x v : Int} {h g g2 : yH} (hn : 24 ≤ m) (R : RR True h g) (hq : rQ g) (h4 : ∀ j, j < 12 → 0 ≤ g 4 j ∧ g 4 j ≤ 2) (e : f_X12_loud m [35, x] g = some (v, g2)) : k7 g g2 :=
  ask_k7 R h4 e (fun c => ⟨-1, zup g 35 0 0, by rw [e_X12_loud, hand_n (c0_q hq) (c0_4 h4) (by rw [zup_ne (by omega)]; exact c), xb_some, if_pos rfl], k7.c0⟩) (fun s t ex hs hW ht => by
    subst ex
    refine yR.e e_X12_loud (yR.b (hand_e (s := s) (t := t) (by omega) (c0_q hq) (c0_4 h4) (by rw [zup_ne (by omega)]; exact hs) (fun j hj => by rw [zup_ne (by omega)]; exact ht j hj) hW) (fun v5 g5 ⟨rv, H⟩ => ?_))
    subst rv
    refine yR.f (by decide) ?_
    have l := loudR_l (x1 := (s : Int)) H.v hW 7 0 m (-1) (-1) rfl hW.wd.2.2.2.2.1 hn
    exact ⟨_, g5, l, hdR.k7 H⟩)
theorem frK_tells {m : Nat} {x w v : Int} {h g g2 : yH} (hn : 800 ≤ m) (R : RR True h g) (hq : rQ g) (h4 : ∀ j, j < 12 → 0 ≤ g 4 j ∧ g 4 j ≤ 2) (e : f_X12_tells m [35, x, w] g = some (v, g2)) : k7 g g2 :=
  ask_k7 R h4 e (fun c => ⟨-1, zup g 35 0 0, by rw [e_X12_tells, hand_n (c0_q hq) (c0_4 h4) (by rw [zup_ne (by omega)]; exact c), xb_some, if_pos rfl], k7.c0⟩) (fun s t ex hs hW ht => by subst ex; exact (tellsR_e hn hq h4 hs ht hW).m (fun _ g2 ⟨_, g1, H, fr⟩ => fun a j w1 w2 => (fr a j (by omega)).trans (hdR.k7 H a j w1 w2)))
theorem frK_least {m : Nat} {x k w v : Int} {h g g2 : yH} (hn : 60 ≤ m) (R : RR True h g) (hq : rQ g) (h4 : ∀ j, j < 12 → 0 ≤ g 4 j ∧ g 4 j ≤ 2) (e : f_X12_least m [35, x, k, w] g = some (v, g2)) : k7 g g2 :=
  ask_k7 R h4 e (fun c => ⟨-1, zup g 35 0 0, by rw [e_X12_least, layTold_n (c0_q hq) (c0_4 h4) (by rw [zup_ne (by omega)]; exact c), xb_some, if_pos rfl], k7.c0⟩) (fun s t ex hs hW ht => by subst ex; exact (leastR_e hn hq h4 hs ht hW).m (fun _ g2 ⟨_, g1, H, fr⟩ => fun a j w1 w2 => (fr a j (by omega)).trans (lyR.k7 H a j w1 w2)))
theorem frK_winds {m : Nat} {x w v : Int} {h g g2 : yH} (hn : 160 ≤ m) (R : RR True h g) (hq : rQ g) (h4 : ∀ j, j < 12 → 0 ≤ g 4 j ∧ g 4 j ≤ 2) (e : f_X12_winds m [35, x, w] g = some (v, g2)) : k7 g g2 := by
  by_cases c2 : 0 ≤ w ∧ w ≤ 2
  · refine ask_k7 R h4 e (fun c => ⟨-1, zup g 35 0 0, by rw [e_X12_winds, in_t c2, xb_some, if_neg (by decide), hand_n (c0_q hq) (c0_4 h4) (by rw [zup_ne (by omega)]; exact c), xb_some, if_pos rfl], k7.c0⟩) (fun s t ex hs hW ht => ?_)
    subst ex
    obtain ⟨v5, g5, e5, rv, H⟩ := hand_e (n := m) (s := s) (t := t) (by omega) (c0_q hq) (c0_4 h4) (by rw [zup_ne (by omega)]; exact hs) (fun j hj => by rw [zup_ne (by omega)]; exact ht j hj) hW
    subst rv
    obtain ⟨v6, g6, e6, rv6, f6⟩ := wndR_l (x1 := (s : Int)) (w := w) (n := m) hW (g := g5) ⟨H.1, H.2.1.1, H.2.1.2.1, H.2.1.2.2.2.2.2, H.2.2.1⟩ (by omega)
    refine ⟨v6, g6, ?_, fun a j w1 w2 => (f6 a j (by omega)).trans (hdR.k7 H a j w1 w2)⟩
    rw [e_X12_winds, in_t c2, xb_some, if_neg (by decide), e5, xb_some, if_neg (by decide), e6]
  · refine yO_d (P := fun _ g2 => k7 g g2) e ?_
    rw [e_X12_winds, in_f c2, xb_some, if_pos rfl]
    exact yR.s k7.c0
/-- the sea in the block, whole -/
theorem WH.sea {s : Nat} {t : Nat → Int} {g : yH} (h : WH g) (hs : s < 2) (hm : (s : Int) < g 4 0) (ht : ∀ j, j < 50 → g 5 (50 * s + j) = t j) : wh0 t := ((h 0 (by decide)).1 s hs hm).c (fun j hj => by
  show t j = g 5 (100 * 0 + 50 * s + j)
  rw [← ht j hj, show 100 * 0 + 50 * s + j = 50 * s + j by omega])
theorem RR_meet {m n : Nat} {x k w : Int} {h g : yH} (hn : 70 ≤ n) (hm2 : 80 ≤ m) (R : RR True h g) (wh : WH g) (hL : lnI h) (hm : h 4 1 ≤ 600) (hq : rQ g) (h4 : ∀ j, j < 12 → 0 ≤ g 4 j ∧ g 4 j ≤ 2) : ∃ v h2 g2, f_X11_meet n [1, x, k, w] h = some (v, h2) ∧ f_X12_meet m [35, x, k, w] g = some (v, g2) ∧ RR True h2 g2 ∧ ∀ a j, h2 a j = h a j := by
  have hP := R.1
  have n0 := R.n6 (j := 0) (by decide)
  have b0 := h4 0 (by decide)
  refine RR_ask (k := 0) (none' := -1) R hL hm hq h4 (fun c => ?_) (fun c => ?_) (fun s t e hs h6 h4' hW hS hp ht => ?_)
  · rw [e_X11_meet, xg_pos (hP.p (by decide)), findSea_e hP (by omega), xb_some, if_neg c, if_pos (by decide)]
  · refine ⟨-1, zup g 35 0 0, ?_, rfl, R.c0 hL hm⟩
    rw [e_X12_meet, layTold_n (c0_q hq) (c0_4 h4) (by rw [zup_ne (by omega)]; exact c), xb_some, if_pos rfl]
  · subst e
    have hh : wh0 t := wh.sea hs h4' ht
    obtain ⟨v, g2, e2, rv, g1, H, fr⟩ := meetR_e (m := m) (x := k) (y := w) hm2 hq h4 h4' ht hW hh
    subst rv
    have R1 : RR True h g1 := (R.c0 hL hm).ly hL hm H
    have q2 : rQ g2 := H.1.1.1.2.2.2.fr (fun j _ => fr _ _ (by omega))
    exact ⟨_, h, g2, meetC_e hn hP (by omega) h6 hS hp hW hh, e2, R1.gf hL hm q2.P (fun a j w => fr a j (by omega)), fun _ _ => rfl⟩
theorem frK_meet {m : Nat} {x k w v : Int} {h g g2 : yH} (hn : 80 ≤ m) (R : RR True h g) (wh : WH g) (hq : rQ g) (h4 : ∀ j, j < 12 → 0 ≤ g 4 j ∧ g 4 j ≤ 2) (e : f_X12_meet m [35, x, k, w] g = some (v, g2)) : k7 g g2 :=
  ask_k7 R h4 e (fun c => ⟨-1, zup g 35 0 0, by rw [e_X12_meet, layTold_n (c0_q hq) (c0_4 h4) (by rw [zup_ne (by omega)]; exact c), xb_some, if_pos rfl], k7.c0⟩) (fun s t ex hs hW ht => by
    subst ex
    have b0 := h4 0 (by decide)
    exact (meetR_e hn hq h4 hs ht hW (wh.sea (by omega) hs ht)).m (fun _ g2 ⟨_, g1, H, fr⟩ => fun a j w1 w2 => (fr a j (by omega)).trans (lyR.k7 H a j w1 w2)))
theorem frK_deed {F : Prop} {m : Nat} {x k w v : Int} {h g g2 : yH} (R : RR F h g) (h4 : ∀ j, j < 12 → 0 ≤ g 4 j ∧ g 4 j ≤ 2) (e : f_X12_deed m [35, x, k, w] g = some (v, g2)) : k7 g g2 := by
  have gP := R.2.1
  have b1 := h4 1 (by decide)
  by_cases c : 0 ≤ x ∧ x < g 4 1
  · obtain ⟨d, rfl⟩ : ∃ d : Nat, x = (d : Int) := ⟨x.toNat, by omega⟩
    obtain ⟨t, a1, a2, a3⟩ := R.2.2.1.2.2.2.2.2.2.1 d (by omega)
    have tw := a3 c.2
    have e2 := deedR_e (n := m) (k := k) (w := w) (t := t) gP h4 (d := d) (by omega) (by omega) (fun j hj => by rw [← a2 j hj, show 242 * 0 + 121 * d + j = 121 * d + j by omega]) tw.1
    exact yO_d (P := fun _ g2 => k7 g g2) e ⟨_, _, e2, fun a j w1 w2 => by rw [zup_ne (by omega), zup_ne (by omega)]⟩
  · have e2 : f_X12_deed m [35, x, k, w] g = some (-2, zup (zup g 35 0 0) 35 33 x) := by
      rw [e_X12_deed, hasDay_e (gP.fr (fun j hj => by rw [zup_ne (by omega)])) (fun j hj => by rw [zup_ne (by omega)]; exact h4 j hj), xb_some, zup_ne (show ¬ (4 = 35 ∧ 1 = 0) by omega), if_neg c, if_pos rfl]
    exact yO_d (P := fun _ g2 => k7 g g2) e ⟨_, _, e2, fun a j w1 w2 => by rw [zup_ne (by omega), zup_ne (by omega)]⟩
theorem frK_count {m : Nat} {x v : Int} {g g2 : yH} (gP : rP g) (e : f_X12_count m [35, x] g = some (v, g2)) : k7 g g2 := by
  refine yO_d (P := fun _ g2 => k7 g g2) e (yR.e e_X12_count ?_)
  by_cases w : 0 ≤ x ∧ x ≤ 2
  · rw [in_t w, xb_some, if_neg (by decide), xg_pos (by rw [zup_ne (by omega)]; exact gP.2.2.2.2.1), xg_pos (by omega)]
    exact yR.s k7.c0
  · rw [in_f w, xb_some, if_pos rfl]
    exact yR.s k7.c0
theorem frK_fault {m : Nat} {x v : Int} {g g2 : yH} (gP : rP g) (e : f_X12_fault m [35, x] g = some (v, g2)) : k7 g g2 := by
  refine yO_d (P := fun _ g2 => k7 g g2) e (yR.e e_X12_fault ?_)
  by_cases w : x = 0
  · rw [if_pos w, xg_pos gP.2.2.1]
    exact yR.s k7.c0
  · rw [if_neg w]
    by_cases w2 : x = 1
    · rw [if_pos w2, xg_pos gP.2.2.2.1]
      exact yR.s k7.c0
    · rw [if_neg w2]
      exact yR.s k7.c0
end
section
variable {η : zRn}
/-! a reference is put into a field that may be null -/
def yPutP (k j u : Nat) (lo hi : Int) (P : yP) : yP := fun loc st h => match st with
  | v :: a :: st' => (a.1 = k + 100002 ∧ v.1 = u + 100000) ∧ (lo ≤ v.2 ∧ v.2 ≤ hi) ∧ P loc st' (zup h a.2.toNat j v.2)
  | _ => False
section YPP
variable {kds : List zKD} {D : va_G} {cl : List vw_C} {cy : Nat → ClassId} {L : List Nat} {Θ : Nat → Option Nat} {nL : Nat}
variable {p : Program} {l : Launch} {e : Env} {R : Room} {s : State} {m : MethodId} {args : Array Value} {below : List Frame} {meth : Method} {c : Code} {Q : State → Prop}
variable {cc : ByteArray} {pc : Nat} {tys : List (ClassId × FieldType)} {Ts : List Cond} {own : String} {P P1 P2 : yP}
theorem yr_putp {u : Nat} (hu : 2 ≤ u ∧ u < 100002) (X : hCx D cl cy L p s m args c cc nL tys Ts own) {idx ci j kk : Nat} {lo hi : Int} {ty : FieldType} (hF : zFok own Ts cl (idx, ci, j, some ty)) (hk : yfd kds kk j ci u lo hi = true) (hft : zfty ty (u, lo, hi) = true) (hd : decode cc pc = .ok (.putfield idx, 3)) (k : yGo η kds D cl cy L Θ nL p l e R s m args below meth c Q (pc + 3) (P)) : yGo η kds D cl cy L Θ nL p l e R s m args below meth c Q (pc) (yPutP kk j u lo hi P) := by
  intro loc st h H locs ls hp g
  unfold yPutP at hp
  split at hp
  · rename_i v a st'
    obtain ⟨⟨h1, h2⟩, h3, h4⟩ := hp
    obtain ⟨K, e1, e2, e3, e4, e5, e6, e7⟩ := y_fd hk
    have gv := g.2.2.1 v List.mem_cons_self
    obtain ⟨a1, a2, a3⟩ := y_ref (η := η) (g.2.2.1 a (List.mem_cons_of_mem _ List.mem_cons_self)) h1
    have ez : zty K j = (u, lo, hi) := by
      generalize zty K j = tt at e5 e6 e7
      obtain ⟨t, x, y⟩ := tt
      simp only at e6 e7
      subst e6 e7
      unfold ytag at e5
      simp only at e5
      split at e5
      · omega
      · rw [e5]
    obtain ⟨w, rfl⟩ : ∃ w, u = w + 2 := ⟨u - 2, by omega⟩
    have ev : yvo η v = zdec η (zty K j).1 v.2 := by
      rw [ez]
      unfold yvo
      rw [h2, show w + 2 + 100000 = w + 100000 + 2 by omega]
      rfl
    have vok : zok Θ (zty K j).1 v.2 := by
      rw [ez]
      unfold yok at gv
      rw [if_neg (by omega), h2, show w + 2 + 100000 - 100002 = w by omega] at gv
      exact Or.inr gv
    rw [List.map_cons, List.map_cons, a3, ev]
    refine hw_put X hF a2 e1 e2 e3 (by rw [ez]; exact hft) ⟨vok, by rw [ez]; exact h3.1, by rw [ez]; exact h3.2⟩ g.2.2.2.1 g.2.2.2.2 hd (fun H1 locs1 hH1 hS1 => ?_)
    exact k loc st' _ H1 locs1 ls h4 ⟨g.1, g.2.1, fun q hq => g.2.2.1 q (List.mem_cons_of_mem _ (List.mem_cons_of_mem _ hq)), hH1, hS1⟩
  · exact hp.elim
end YPP
def xPutP (k j u : Nat) (lo hi : Int) (K : yX) : yX := fun loc st h => match st with
  | w :: a :: st => cond (Nat.beq a.1 (k + 100002) && Nat.beq w.1 (u + 100000)) (xg (lo ≤ w.2 ∧ w.2 ≤ hi) (K loc st (zup h a.2.toNat j w.2))) none
  | _ => none
theorem x_putp {k j u : Nat} {lo hi : Int} {Qr : yQt} {t : Nat} {K : yX} : ∀ loc st h, xw Qr t (xPutP k j u lo hi K) loc st h → yPutP k j u lo hi (xw Qr t K) loc st h := by
  intro loc st h ⟨v, h2, e, q⟩
  unfold xPutP at e
  unfold yPutP
  split at e
  · rename_i w a st
    obtain ⟨e1, e⟩ := xt2 e
    obtain ⟨e2, e⟩ := xg_s e
    exact ⟨e1, e2, v, h2, e, q⟩
  · cases e
/-! calls with more than four values left on the stack, none of them a long -/
def yCalR8 (Θ : Nat → Option Nat) (n : Nat) (tags : List Nat) (B : yB) (P : yP) : yP := fun loc st h => (n ≤ st.length ∧ (st.drop n).length ≤ 8 ∧ ∀ a ∈ st.drop n, a.1 ≠ 1) ∧ (st.take n).reverse.map Prod.fst = tags ∧ B Θ ((st.take n).reverse.map Prod.snd) h (fun v h' => yok Θ v → P loc (v :: st.drop n) h')
section YC8
variable {kds : List zKD} {D : va_G} {cl : List vw_C} {cy : Nat → ClassId} {L : List Nat} {Θ : Nat → Option Nat} {nL : Nat}
variable {p : Program} {l : Launch} {e : Env} {R : Room} {s : State} {m : MethodId} {args : Array Value} {below : List Frame} {meth : Method} {c : Code} {Q : State → Prop} {pc : Nat} {P : yP}
theorem y_catn : ∀ {st : List yV}, (∀ a ∈ st, a.1 ≠ 1) → ((st.map (yvo η)).map (fun v => v.category)).sum ≤ st.length := by
  intro st
  induction st with
  | nil => intro _; simp
  | cons a r ih =>
    intro h
    simp only [List.map_cons, List.sum_cons, List.length_cons]
    have h1 := ih (fun b hb => h b (List.mem_cons_of_mem _ hb))
    rw [y_cat1 a (h a List.mem_cons_self)]
    omega
theorem y_cal8 {n : Nat} {tags : List Nat} {B : yB} {vd : Bool} {loc : yL} {st : List yV} {h : yH} {H : Heap} {locs : List Loc} {ls : Array Slot} {Qr' : yQt} (hn : tags.length = n) (hrun : yHrun η kds D cl cy L Θ nL p l e R s m args below meth c pc tags B vd) (g : yG η kds D cl cy L Θ s.heap nL loc st h H locs ls) (h1 : n ≤ st.length ∧ (st.drop n).length ≤ 8 ∧ ∀ a ∈ st.drop n, a.1 ≠ 1) (h2 : (st.take n).reverse.map Prod.fst = tags) (h3 : B Θ ((st.take n).reverse.map Prod.snd) h Qr')
    (kk : ∀ (a : yV) (h' : yH) (H' : Heap) (locs' : List Loc), Qr' a h' → yok Θ a → zH η kds D cl cy L Θ h' H' → va_S (fun q => q ∈ L) s.heap H' locs' → W p l e R s m args below meth c H' locs' 0 0 Q (F0 m (pc + 3) ls ((if vd = true then (none : Option Value) else some (yvo η a)).toList ++ (st.drop n).map (yvo η)))) : W p l e R s m args below meth c H locs 0 0 Q (F0 m pc ls (st.map (yvo η))) := by
  have es : st.map (yvo η) = (((st.take n).reverse).map (yvo η)).reverse ++ (st.drop n).map (yvo η) := by
    rw [← List.map_reverse, List.reverse_reverse, ← List.map_append, List.take_append_drop]
  rw [es]
  have c8 := y_catn (η := η) (st := st.drop n) h1.2.2
  have hr := hrun ((st.take n).reverse) h H locs ls ((st.drop n).map (yvo η)) Qr' h2 (fun a ha => g.2.2.1 a (List.mem_of_mem_take (List.mem_reverse.mp ha))) h3 g.2.2.2.1 g.2.2.2.2 g.2.1.1 (by omega)
  intro T hT X
  obtain ⟨v, st₀, t, T', L', hh0, X', hL', e1, e2, ⟨v', a, h', hv, hv2, oa, oq, oH, oF⟩, stp⟩ := hr T hT X
  cases hv
  have gF := g.2.2.2.2
  have w := kk a h' t.heap (locs ++ L') oq oa oH ⟨Nat.le_trans gF.1 (by rw [← hh0]; exact oF.1), fun q hq hA => by
    have hq' : q < st₀.heap.size := by rw [hh0]; exact Nat.lt_of_lt_of_le hq gF.1
    rw [oF.2 q hq' hA, hh0]
    exact gF.2.1 q hq hA, fun q hq => by
    rcases List.mem_append.mp hq with hq | hq
    · exact gF.2.2 q hq
    · exact hL' q hq⟩
  rw [← hv2] at w
  obtain ⟨t2, q1, q2⟩ := w T' e1 X'
  exact ⟨t2, stp t2 q1, q2⟩
theorem yr_calR8 {n : Nat} {tags : List Nat} {B : yB} (hn : tags.length = n) (hrun : yHrun η kds D cl cy L Θ nL p l e R s m args below meth c pc tags B false) (k : yGo η kds D cl cy L Θ nL p l e R s m args below meth c Q (pc + 3) (P)) : yGo η kds D cl cy L Θ nL p l e R s m args below meth c Q (pc) (yCalR8 Θ n tags B P) := by
  intro loc st h H locs ls hp g
  obtain ⟨h1, h2, h3⟩ := hp
  exact y_cal8 hn hrun g h1 h2 h3 (fun a h' H' locs' oq oa oH oS => k loc (a :: st.drop n) h' H' locs' ls (oq oa) ⟨g.1, g.2.1, fun b hb => by
    rcases List.mem_cons.mp hb with rfl | hb
    · exact oa
    · exact g.2.2.1 b (List.mem_of_mem_drop hb), oH, oS⟩)
end YC8
def xn1 : List yV → Bool
  | [] => true
  | a :: r => cond (Nat.beq a.1 1) false (xn1 r)
theorem x_n1 : ∀ {st : List yV}, xn1 st = true → ∀ a ∈ st, a.1 ≠ 1 := by
  intro st
  induction st with
  | nil => intro _ a ha; cases ha
  | cons b r ih =>
    intro h a ha w
    unfold xn1 at h
    cases q : Nat.beq b.1 1 with
    | true => rw [q] at h; cases h
    | false =>
      rw [q] at h
      rcases List.mem_cons.mp ha with rfl | ha
      · rw [w] at q; cases q
      · exact ih h a ha w
def xCalR8 (n : Nat) (tags : List Nat) (u : Nat) (f : List Int → yH → yO) (K : yX) : yX := fun loc st h =>
  cond (Nat.ble n st.length && (Nat.ble (st.drop n).length 8 && (xn1 (st.drop n) && xtg ((st.take n).reverse.map Prod.fst) tags))) (xb (f ((st.take n).reverse.map Prod.snd) h) (fun v h' => K loc ((u, v) :: st.drop n) h')) none
theorem x_calR8 {n : Nat} {tags : List Nat} {u n0 : Nat} {f : yFn} {Θ : Nat → Option Nat} {Qr : yQt} {t : Nat} {K : yX} : ∀ loc st h, xw Qr t (xCalR8 n tags u (f n0) K) loc st h → yCalR8 Θ n tags (yF u f) (xw Qr t K) loc st h := by
  intro loc st h ⟨v, h2, e, q⟩
  unfold xCalR8 at e
  obtain ⟨e1, e⟩ := xt_s e
  rw [Bool.and_eq_true, Bool.and_eq_true, Bool.and_eq_true] at e1
  obtain ⟨v', h', e2, e3⟩ := xb_s e
  exact ⟨⟨Nat.le_of_ble_eq_true e1.1, Nat.le_of_ble_eq_true e1.2.1, x_n1 e1.2.2.1⟩, x_tg e1.2.2.2, n0, v', h', e2, fun _ => ⟨v, h2, e3, q⟩⟩
end
