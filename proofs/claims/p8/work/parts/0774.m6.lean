section
/-! a text without fault is whole -/
theorem nt_0 {q : Int × Int} {c : Prop} {dc : Decidable c} {f p : Int} (hf : f ≠ 0) (h : (@nt q c dc f p).1 = 0) : q.1 = 0 ∧ ¬ c ∧ @nt q c dc f p = q := by
  by_cases hq : q.1 = 0
  · by_cases hc : c
    · rw [ntt hq hc] at h
      exact absurd h hf
    · exact ⟨hq, hc, ntf hc⟩
  · rw [ntn hq] at h
    exact absurd h hq
theorem pRd_w {u : Nat → Int} {N of : Nat} (hof : of ≤ 2) : ∀ (m x : Nat) (q : Int × Int) (t : Nat → Int) (c o : Int), N - x < m → x ≤ N → (q.1 = 0 → tWf of t ∧ cI of t c o) → (pRd u N of m x q t c o).1.1 = 0 →
    ∃ c2 o2, tWf of (pRd u N of m x q t c o).2 ∧ cI of (pRd u N of m x q t c o).2 c2 o2 ∧ ¬ lnX of (pRd u N of m x q t c o).2 c2 o2 := by
  intro m
  induction m with
  | zero => intro x q t c o e1; omega
  | succ m ih =>
    intro x q t c o e1 hx hI
    simp only [pRd]
    by_cases hK0 : tkK u N x = 0
    · rw [if_pos hK0]
      intro w
      obtain ⟨w1, w2, w3⟩ := nt_0 (by decide) w
      obtain ⟨i1, i2⟩ := hI w1
      exact ⟨c, o, i1, i2, w2⟩
    · rw [if_neg hK0]
      by_cases h15 : lnAt u N of x = 15
      · rw [if_pos h15]
        intro w
        exact absurd w (show ¬ (1 : Int) = 0 by decide)
      · rw [if_neg h15]
        obtain ⟨hk2, hi, hwe⟩ := lnAt_p h15
        generalize lnAt u N of x = ln at *
        by_cases hex : ∃ i, i < lnN ln ∧ tkK u N (tkN u N x (i + 1)) ≠ 3 ∧ ∀ j, j < i → tkK u N (tkN u N x (j + 1)) = 3
        · rw [dif_pos hex]
          intro w
          exact absurd w (show ¬ (1 : Int) = 0 by decide)
        · rw [dif_neg hex]
          by_cases k2 : tkK u N (tkN u N x (lnN ln + 1)) ≠ 4
          · rw [if_pos k2]
            intro w
            exact absurd w (show ¬ (1 : Int) = 0 by decide)
          · rw [if_neg k2]
            have k4 : tkK u N (tkN u N x (lnN ln + 1)) = 4 := Decidable.not_not.mp k2
            have y1 : x ≤ tkN u N x (lnN ln + 1) := tkN_le _
            have y2 : tkN u N x (lnN ln + 1) ≤ N := tkN_m hx _
            have y3 : tkS u N (tkN u N x (lnN ln + 1)) < N := by
              have a1 : tkS u N (tkN u N x (lnN ln + 1)) ≤ N := tkS_n y2
              have a2 : ¬ tkS u N (tkN u N x (lnN ln + 1)) = N := fun w => by
                have := (tkK_0 y2).mpr w
                omega
              omega
            have y4 := tkE_gt y3
            have y5 : tkN u N x (lnN ln + 1) ≤ tkS u N (tkN u N x (lnN ln + 1)) := tkS_le
            have y6 : tkE u N (tkN u N x (lnN ln + 1)) ≤ N := tkE_n y2
            refine ih _ _ _ _ _ (by omega) y6 (fun w => ?_)
            obtain ⟨z1, z2, z3⟩ := ntL_0 w
            obtain ⟨w1, hM, w3⟩ := nt_0 (by decide) z1
            obtain ⟨i1, i2⟩ := hI w1
            exact ⟨lnT_W (by have := lnIn_j hof hi; omega) i1 z3 hM, cI_T hof hi i2 i1 z3 hM⟩
/-- cells in the sea, sayings that are there -/
def wh0 (t : Nat → Int) : Prop := (∀ k : Nat, k < 4 → (k : Int) < t 5 → t (19 + 3 * k) < t 0 * t 1) ∧ ∀ k : Nat, k < 6 → (k : Int) < t 6 → t (31 + 3 * k) < t 0 * t 1
def wh2 (t : Nat → Int) : Prop := 1 ≤ t 0 ∧ ∀ k : Nat, k < 16 → (k : Int) < t 1 → t (20 + 2 * k) < t 0 ∧ t (21 + 2 * k) < t 0
theorem wh0.c {t t2 : Nat → Int} (h : wh0 t) (e : ∀ j, j < 50 → t2 j = t j) : wh0 t2 := by
  refine ⟨fun k hk h5 => ?_, fun k hk h6 => ?_⟩
  · rw [e 5 (by decide)] at h5
    rw [e _ (by omega), e 0 (by decide), e 1 (by decide)]
    exact h.1 k hk h5
  · rw [e 6 (by decide)] at h6
    rw [e _ (by omega), e 0 (by decide), e 1 (by decide)]
    exact h.2 k hk h6
theorem wh2.c {t t2 : Nat → Int} (h : wh2 t) (e : ∀ j, j < 52 → t2 j = t j) : wh2 t2 := by
  refine ⟨by rw [e 0 (by decide)]; exact h.1, fun k hk h1 => ?_⟩
  rw [e 1 (by decide)] at h1
  rw [e _ (by omega), e (21 + 2 * k) (by omega), e 0 (by decide)]
  exact h.2 k hk h1
theorem pRd_h {u : Nat → Int} {N of : Nat} {t0 : Nat → Int} (hof : of ≤ 2) (hN : N ≤ 600) (ht : ∀ j, j < 121 → t0 j = tI of j) (h0 : (pRd u N of 700 0 (0, -1) t0 (-1) (-1)).1.1 = 0) : (of = 0 → wh0 (pRd u N of 700 0 (0, -1) t0 (-1) (-1)).2) ∧ (of = 2 → wh2 (pRd u N of 700 0 (0, -1) t0 (-1) (-1)).2) := by
  obtain ⟨c, o, w1, w2, w3⟩ := pRd_w (u := u) (N := N) hof 700 0 (0, -1) t0 (-1) (-1) (by omega) (by omega) (fun _ => ⟨tI_W hof ht, cI_0 hof ht⟩) h0
  generalize (pRd u N of 700 0 (0, -1) t0 (-1) (-1)).2 = t at *
  refine ⟨fun e => ?_, fun e => ?_⟩
  · obtain ⟨i1, i2, -, -⟩ := w2.1 e
    have hc : ¬ (t 0 * t 1 ≤ c) := fun w => w3 (Or.inl ⟨e, Or.inl w⟩)
    refine ⟨fun k _ hk => ?_, fun k _ hk => ?_⟩
    · have := i1 k hk
      omega
    · have := i2 k hk
      omega
  · obtain ⟨i1, -⟩ := w2.2 e
    have hb := (w1.2.2 e).1
    have h1 : ¬ t 0 = 0 := fun w => w3 (Or.inr ⟨e, Or.inl w⟩)
    have h2 : ¬ t 0 ≤ o := fun w => w3 (Or.inr ⟨e, Or.inr w⟩)
    refine ⟨by omega, fun k _ hk => ?_⟩
    obtain ⟨j1, j2⟩ := i1 k hk
    exact ⟨by omega, by omega⟩
/-! the told texts are whole, those of the images too: kept by every call of the reference -/
def WHk (κ : Nat) (g : yH) : Prop := (∀ i : Nat, i < 2 → (i : Int) < g 4 (3 * κ) → wh0 (fun j => g 5 (100 * κ + 50 * i + j))) ∧ ∀ i : Nat, i < 2 → (i : Int) < g 4 (3 * κ + 2) → wh2 (fun j => g 7 (104 * κ + 52 * i + j))
def WH (g : yH) : Prop := ∀ κ, κ < 4 → WHk κ g
theorem WHk.c {κ κ2 : Nat} {g g2 : yH} (h : WHk κ g) (e4 : ∀ j, j < 3 → g2 4 (3 * κ2 + j) = g 4 (3 * κ + j)) (e5 : ∀ j, j < 100 → g2 5 (100 * κ2 + j) = g 5 (100 * κ + j)) (e7 : ∀ j, j < 104 → g2 7 (104 * κ2 + j) = g 7 (104 * κ + j)) : WHk κ2 g2 := by
  refine ⟨fun i hi w => ?_, fun i hi w => ?_⟩
  · have e := e4 0 (by decide)
    rw [Nat.add_zero, Nat.add_zero] at e
    rw [e] at w
    refine (h.1 i hi w).c (fun j hj => ?_)
    show g2 5 (100 * κ2 + 50 * i + j) = g 5 (100 * κ + 50 * i + j)
    rw [Nat.add_assoc, e5 _ (by omega), Nat.add_assoc]
  · rw [e4 2 (by decide)] at w
    refine (h.2 i hi w).c (fun j hj => ?_)
    show g2 7 (104 * κ2 + 52 * i + j) = g 7 (104 * κ + 52 * i + j)
    rw [Nat.add_assoc, e7 _ (by omega), Nat.add_assoc]
theorem WH.fr {g g2 : yH} (h : WH g) (e : ∀ a j, a = 4 ∨ a = 5 ∨ a = 7 → g2 a j = g a j) : WH g2 := fun κ hκ => (h κ hκ).c (fun j _ => e _ _ (by omega)) (fun j _ => e _ _ (by omega)) (fun j _ => e _ _ (by omega))
theorem WH.ra {f t : Nat} {g g2 : yH} (h : WH g) (hf : f < 4) (hr : raR f t g g2) : WH g2 := by
  obtain ⟨-, -, -, -, r4, r5, -, r7, -, -, s4, s5, -, s7, -⟩ := hr
  intro κ hκ
  by_cases q : κ = t
  · subst q
    exact (h f hf).c r4 r5 r7
  · exact (h κ hκ).c (fun j hj => s4 _ (by omega)) (fun j hj => s5 _ (by omega)) (fun j hj => s7 _ (by omega))
theorem yO_d {r : yO} {v : Int} {g2 : yH} {P : Int → yH → Prop} (e : r = some (v, g2)) (h : yR r P) : P v g2 := by
  obtain ⟨v', g', e', p⟩ := h
  have q := Option.some.inj (e.symm.trans e')
  rw [show v = v' from congrArg Prod.fst q, show g2 = g' from congrArg Prod.snd q]
  exact p
theorem rBd.c0 {g : yH} (gb : rBd g) : rBd (zup g 35 0 0) := fun a ha j hj => by
  rw [zup_ne (by omega)]
  exact gb a ha j hj
theorem frH_image {m : Nat} {x v : Int} {g g2 : yH} (hn : 1000 ≤ m) (gP : rP g) (gb : rBd g) (p63 : g 35 63 = 34) (e : f_X12_image m [35, x] g = some (v, g2)) (h : WH g) : WH g2 := by
  refine yO_d (P := fun _ g2 => WH g2) e (yR.e e_X12_image ?_)
  have h0 : WH (zup g 35 0 0) := h.fr (fun a j w => zup_ne (by omega))
  by_cases w : 0 ≤ x ∧ x ≤ 2
  · rw [in_t w, xb_some, if_neg (by decide), xg_pos (by omega)]
    have c := call_e (n := m) (f := 0) (t := x.toNat + 1) hn (gP.fr (h2 := zup g 35 0 0) (fun j hj => by rw [zup_ne (by omega)])) gb.c0 (by decide) (by omega) (by omega)
    rw [show ((0 : Nat) : Int) = 0 from rfl, show ((x.toNat + 1 : Nat) : Int) = x + 1 by omega] at c
    refine yR.b c (fun v1 g1 hr => ?_)
    have c1 : g1 35 63 = 34 := by
      obtain ⟨-, -, -, -, -, -, -, -, -, -, -, -, -, -, r8⟩ := hr
      rw [r8 35 63 (by decide), zup_ne (by omega)]
      exact p63
    rw [xg_pos c1, xg_pos (by omega)]
    exact yR.s ((h0.ra (by decide) hr).fr (fun a j w => zup_ne (by omega)))
  · rw [in_f w, xb_some, if_pos rfl]
    exact yR.s h0
theorem frH_again {m : Nat} {x v : Int} {g g2 : yH} (hn : 1000 ≤ m) (gP : rP g) (gb : rBd g) (p63 : g 35 63 = 34) (e : f_X12_again m [35, x] g = some (v, g2)) (h : WH g) : WH g2 := by
  refine yO_d (P := fun _ g2 => WH g2) e (yR.e e_X12_again ?_)
  have h0 : WH (zup g 35 0 0) := h.fr (fun a j w => zup_ne (by omega))
  by_cases w : 0 ≤ x ∧ x ≤ 2
  · rw [in_t w, xb_some, if_neg (by decide), xg_pos (by rw [zup_ne (by omega)]; exact p63), xg_pos (by omega)]
    by_cases c1 : (zup g 35 0 0) 34 x.toNat = 0
    · rw [if_pos c1]
      exact yR.s h0
    · rw [if_neg c1, xg_pos (by omega)]
      have c := call_e (n := m) (f := x.toNat + 1) (t := 0) hn (gP.fr (h2 := zup g 35 0 0) (fun j hj => by rw [zup_ne (by omega)])) gb.c0 (by omega) (by decide) (by omega)
      rw [show ((0 : Nat) : Int) = 0 from rfl, show ((x.toNat + 1 : Nat) : Int) = x + 1 by omega] at c
      refine yR.b c (fun v1 g1 hr => ?_)
      exact yR.s (h0.ra (by omega) hr)
  · rw [in_f w, xb_some, if_pos rfl]
    exact yR.s h0
theorem frH_feed {n : Nat} {x1 x2 x3 x4 x5 v : Int} {g g2 : yH} (hn : 6 ≤ n) (gP : rP g) (h1 : 0 ≤ g 1 0 ∧ g 1 0 ≤ 600) (e : f_X12_feed n [35, x1, x2, x3, x4, x5] g = some (v, g2)) (h : WH g) : WH g2 := by
  obtain ⟨m, em⟩ : ∃ m : Nat, g 1 0 = (m : Int) := ⟨(g 1 0).toNat, by omega⟩
  obtain ⟨-, r⟩ := yO_d e (feedR_r (x1 := x1) (x2 := x2) (x3 := x3) (x4 := x4) (x5 := x5) hn gP em (by omega))
  rcases r with ⟨-, -, r⟩ | ⟨-, -, -, r⟩
  · rw [r]
    exact h.fr (fun a j w => zup_ne (by omega))
  · exact h.fr (fun a j w => by rw [r a j (by omega), if_neg (by omega), zup_ne (by omega)])
theorem frH_end {n : Nat} {x v : Int} {g g2 : yH} (gP : rP g) (h1 : 0 ≤ g 1 0 ∧ g 1 0 ≤ 600) (e : f_X12_end n [35, x] g = some (v, g2)) (h : WH g) : WH g2 := by
  rcases yO_d e (endR_r (x := x) gP h1) with ⟨-, -, r⟩ | ⟨-, -, r⟩
  · rw [r]
    exact h.fr (fun a j w => zup_ne (by omega))
  · rw [r]
    exact h.fr (fun a j w => by rw [zup_ne (by omega), zup_ne (by omega)])
theorem frH_text {n : Nat} {sort at_ v : Int} {g g2 : yH} (hn : 2600 ≤ n) (gP : rP g) (h1 : 0 ≤ g 1 0 ∧ g 1 0 ≤ 600) (hm : ∀ j, j < 12 → 0 ≤ g 4 j ∧ g 4 j ≤ 2) (e : f_X12_text n [35, sort, at_] g = some (v, g2)) (h : WH g) : WH g2 := by
  obtain ⟨t0, v', g', ht, e', r⟩ := text_e (sort := sort) (at_ := at_) hn gP h1 hm
  have q := Option.some.inj (e.symm.trans e')
  rw [show g2 = g' from congrArg Prod.snd q]
  obtain ⟨-, -, -, -, -, -, -, r⟩ := r
  rcases r with ⟨-, -, -, -, r⟩ | ⟨kn, -, -, ⟨-, -, r⟩ | ⟨w0, -, wf, r⟩⟩
  · exact h.fr (fun a j w => r a j (by omega))
  · exact h.fr (fun a j w => r a j (by omega))
  · have k2 := txK_b (fun j hj => hm j (by omega)) kn
    obtain ⟨p0, p2⟩ := pRd_h (u := uR g) (N := (g 1 0).toNat) (of := sort.toNat) (by omega) (by omega) ht w0
    generalize (pRd (uR g) (g 1 0).toNat sort.toNat 700 0 (0, -1) t0 (-1) (-1)).2 = t at *
    obtain ⟨K, hK⟩ : ∃ K : Nat, (txK (g 4) sort at_).toNat = K := ⟨_, rfl⟩
    rw [hK] at r
    have hK2 : K < 2 := by omega
    have hof : sort.toNat ≤ 2 := by omega
    generalize sort.toNat = of at *
    have z4 : ∀ j, j ≠ of → g' 4 j = g 4 j := fun j w => by
      rw [r 4 j (by omega)]
      unfold txS
      rw [if_neg (by omega), if_neg (by omega), if_neg (by omega), if_neg (by omega)]
    have zo : g' 4 of = if g 4 of = (K : Int) then g 4 of + 1 else g 4 of := by
      rw [r 4 of (by omega)]
      unfold txS
      rw [if_pos ⟨rfl, rfl⟩]
    have z5 : ∀ j, ¬ (of = 0 ∧ 50 * K ≤ j ∧ j < 50 * K + 50) → g' 5 j = g 5 j := fun j w => by
      rw [r 5 j (by omega)]
      unfold txS
      rw [if_neg (by omega), if_neg (by omega), if_neg (by omega), if_neg (by omega)]
    have z5t : of = 0 → ∀ j, j < 50 → g' 5 (50 * K + j) = t j := fun w j hj => by
      rw [r 5 _ (by omega)]
      unfold txS
      rw [if_neg (by omega), if_pos (by omega), show 50 * K + j - 50 * K = j by omega]
    have z7 : ∀ j, ¬ (of = 2 ∧ 52 * K ≤ j ∧ j < 52 * K + 52) → g' 7 j = g 7 j := fun j w => by
      rw [r 7 j (by omega)]
      unfold txS
      rw [if_neg (by omega), if_neg (by omega), if_neg (by omega), if_neg (by omega)]
    have z7t : of = 2 → ∀ j, j < 52 → g' 7 (52 * K + j) = t j := fun w j hj => by
      rw [r 7 _ (by omega)]
      unfold txS
      rw [if_neg (by omega), if_neg (by omega), if_neg (by omega), if_pos (by omega), show 52 * K + j - 52 * K = j by omega]
    intro κ hκ
    by_cases q0 : κ = 0
    · subst q0
      obtain ⟨h0, h2⟩ := h 0 (by decide)
      refine ⟨fun i hi w => ?_, fun i hi w => ?_⟩
      · by_cases qi : of = 0 ∧ i = K
        · refine (p0 qi.1).c (fun j hj => ?_)
          show g' 5 (100 * 0 + 50 * i + j) = t j
          rw [← z5t qi.1 j hj, qi.2, show 100 * 0 + 50 * K + j = 50 * K + j by omega]
        · have w' : (i : Int) < g 4 (3 * 0) := by
            by_cases qo : of = 0
            · rw [show 3 * 0 = of by omega, zo] at w
              rw [show 3 * 0 = of by omega]
              split at w <;> omega
            · rw [z4 _ (by omega)] at w
              exact w
          exact (h0 i hi w').c (fun j hj => z5 _ (by omega))
      · by_cases qi : of = 2 ∧ i = K
        · refine (p2 qi.1).c (fun j hj => ?_)
          show g' 7 (104 * 0 + 52 * i + j) = t j
          rw [← z7t qi.1 j hj, qi.2, show 104 * 0 + 52 * K + j = 52 * K + j by omega]
        · have w' : (i : Int) < g 4 (3 * 0 + 2) := by
            by_cases qo : of = 2
            · rw [show 3 * 0 + 2 = of by omega, zo] at w
              rw [show 3 * 0 + 2 = of by omega]
              split at w <;> omega
            · rw [z4 _ (by omega)] at w
              exact w
          exact (h2 i hi w').c (fun j hj => z7 _ (by omega))
    · exact (h κ hκ).c (fun j hj => z4 _ (by omega)) (fun j hj => z5 _ (by omega)) (fun j hj => z7 _ (by omega))
end
section
/-! beside a cell -/
def besV (W H p s : Int) : Int := if s = 0 then (if 0 < p / W then p - W else -1) else if s = 1 then (if p % W < W - 1 then p + 1 else -1) else if s = 2 then (if p / W < H - 1 then p + W else -1) else if s = 3 then (if 0 < p % W then p - 1 else -1) else -1
theorem W_c {W : Int} (h : 2 ≤ W ∧ W ≤ 8) : W = 2 ∨ W = 3 ∨ W = 4 ∨ W = 5 ∨ W = 6 ∨ W = 7 ∨ W = 8 := by omega
theorem besV_b {W H p s : Int} (hW : 2 ≤ W ∧ W ≤ 8) (hH : 2 ≤ H ∧ H ≤ 8) (hp : 0 ≤ p ∧ p < W * H) : besV W H p s = -1 ∨ (0 ≤ besV W H p s ∧ besV W H p s < W * H) := by
  unfold besV
  rcases W_c hW with rfl | rfl | rfl | rfl | rfl | rfl | rfl <;>
  · split
    · split <;> omega
    · split
      · split <;> omega
      · split
        · split <;> omega
        · split
          · split <;> omega
          · omega
theorem pW_63 {W H p : Int} (hW : 2 ≤ W ∧ W ≤ 8) (hH : 2 ≤ H ∧ H ≤ 8) (hp : 0 ≤ p ∧ p < W * H) : 0 ≤ p ∧ p ≤ 63 := by
  have := Int.mul_le_mul hW.2 hH.2 (by omega) (by omega)
  have e : (8 : Int) * 8 = 64 := by decide
  omega
theorem besC_e {n b : Nat} {p s W H : Int} {h : yH} (h0 : h b 0 = W) (h1 : h b 1 = H) (hW : 2 ≤ W ∧ W ≤ 8) (hH : 2 ≤ H ∧ H ≤ 8) (hp : 0 ≤ p ∧ p < W * H) : f_X6_beside n [(b : Int), p, s] h = some (besV W H p s, h) := by
  have p63 := pW_63 hW hH hp
  obtain ⟨q1, q2⟩ := yqr p63 (show 1 ≤ W ∧ W ≤ 8 by omega)
  obtain ⟨b1, b2⟩ := yqr_b p63 (show 1 ≤ W ∧ W ≤ 8 by omega)
  rw [e_X6_beside, e_X6_rowOf, Int.toNat_natCast, h0, if_neg (by omega), xg_pos (by omega), xb_some, e_X6_columnOf, Int.toNat_natCast, h0, if_neg (by omega), xg_pos (by omega), xb_some, h0, h1, q1, q2]
  unfold besV
  by_cases c0 : s = 0
  · rw [if_pos c0, if_pos c0]
    by_cases c : 0 < p / W
    · rw [if_pos c, if_pos c, xg_pos (by omega)]
    · rw [if_neg c, if_neg c]
  rw [if_neg c0, if_neg c0]
  by_cases c1 : s = 1
  · rw [if_pos c1, if_pos c1, xg_pos (by omega)]
    by_cases c : p % W < W - 1
    · rw [if_pos c, if_pos c, xg_pos (by omega)]
    · rw [if_neg c, if_neg c]
  rw [if_neg c1, if_neg c1]
  by_cases c2 : s = 2
  · rw [if_pos c2, if_pos c2, xg_pos (by omega)]
    by_cases c : p / W < H - 1
    · rw [if_pos c, if_pos c, xg_pos (by omega)]
    · rw [if_neg c, if_neg c]
  rw [if_neg c2, if_neg c2]
  by_cases c3 : s = 3
  · rw [if_pos c3, if_pos c3]
    by_cases c : 0 < p % W
    · rw [if_pos c, if_pos c, xg_pos (by omega)]
    · rw [if_neg c, if_neg c]
  rw [if_neg c3, if_neg c3]
theorem drC_e {n b : Nat} {p s W H : Int} {h : yH} (h0 : h b 0 = W) (h1 : h b 1 = H) (hW : 2 ≤ W ∧ W ≤ 8) (hH : 2 ≤ H ∧ H ≤ 8) (hp : 0 ≤ p ∧ p < W * H) : f_X6_drifted n [(b : Int), p, s] h = some (if besV W H p s = -1 then p else besV W H p s, h) := by
  rw [e_X6_drifted, besC_e h0 h1 hW hH hp, xb_some]
  by_cases c : besV W H p s = -1
  · rw [if_pos c, if_pos c]
  · rw [if_neg c, if_neg c]
theorem besV_0 {W H p : Int} : besV W H p 0 = (if 0 < p / W then p - W else -1) := if_pos rfl
theorem besV_1 {W H p : Int} : besV W H p 1 = (if p % W < W - 1 then p + 1 else -1) := by
  unfold besV
  rw [if_neg (by decide), if_pos rfl]
theorem besV_2 {W H p : Int} : besV W H p 2 = (if p / W < H - 1 then p + W else -1) := by
  unfold besV
  rw [if_neg (by decide), if_neg (by decide), if_pos rfl]
theorem besV_3 {W H p : Int} : besV W H p 3 = (if 0 < p % W then p - 1 else -1) := by
  unfold besV
  rw [if_neg (by decide), if_neg (by decide), if_neg (by decide), if_pos rfl]
theorem besR_51 {n : Nat} {x1 x2 x dy y W H : Int} {g : yH} (h24 : g 35 24 = W) (h25 : g 35 25 = H) (hW : 2 ≤ W ∧ W ≤ 8) (hH : 2 ≤ H ∧ H ≤ 8) (hx : -1 ≤ x ∧ x ≤ 8) (hy : -1 ≤ y + dy ∧ y + dy ≤ 64) : xq_X12_beside_51 n [35, x1, x2, x, dy, y] g = some (if (0 ≤ x ∧ x ≤ W - 1) ∧ 0 ≤ y + dy ∧ y + dy ≤ H - 1 then (y + dy) * W + x else -1, g) := by
  rw [e_X12_beside_51, h24, xg_pos (by omega), xg_pos (by omega)]
  by_cases c1 : 0 ≤ x ∧ x ≤ W - 1
  · rw [in_t c1, xb_some, if_neg (by decide), h25, xg_pos (by omega)]
    by_cases c2 : 0 ≤ y + dy ∧ y + dy ≤ H - 1
    · have m1 := Int.mul_le_mul (show y + dy ≤ 7 by omega) hW.2 (by omega) (by omega)
      have m0 := Int.mul_nonneg c2.1 (show 0 ≤ W by omega)
      have e : (7 : Int) * 8 = 56 := by decide
      rw [in_t c2, xb_some, if_neg (by decide), h24, if_pos ⟨c1, c2⟩]
      generalize (y + dy) * W = z at *
      rw [xg_pos (by omega), xg_pos (by omega)]
    · rw [in_f c2, xb_some, if_pos rfl, if_neg (fun q => c2 q.2)]
  · rw [in_f c1, xb_some, if_pos rfl, if_neg (fun q => c1 q.1)]
theorem besR_e {n : Nat} {p s W H : Int} {g : yH} (h24 : g 35 24 = W) (h25 : g 35 25 = H) (hW : 2 ≤ W ∧ W ≤ 8) (hH : 2 ≤ H ∧ H ≤ 8) (hp : 0 ≤ p ∧ p < W * H) (hs : 0 ≤ s ∧ s ≤ 3) : f_X12_beside n [35, p, s] g = some (besV W H p s, g) := by
  have p63 := pW_63 hW hH hp
  obtain ⟨q1, q2⟩ := yqr p63 (show 1 ≤ W ∧ W ≤ 8 by omega)
  obtain ⟨b1, b2⟩ := yqr_b p63 (show 1 ≤ W ∧ W ≤ 8 by omega)
  have fin : ∀ x dy : Int, -1 ≤ dy ∧ dy ≤ 1 → -1 ≤ x ∧ x ≤ 8 → xq_X12_beside_51 n [35, p, s, x, dy, p / W] g = some (if (0 ≤ x ∧ x ≤ W - 1) ∧ 0 ≤ p / W + dy ∧ p / W + dy ≤ H - 1 then (p / W + dy) * W + x else -1, g) := fun x dy h1 h2 => besR_51 h24 h25 hW hH h2 (by omega)
  rw [e_X12_beside, h24, xg_pos (by omega), q2]
  rcases (show s = 0 ∨ s = 1 ∨ s = 2 ∨ s = 3 by omega) with rfl | rfl | rfl | rfl
  · rw [if_neg (by decide), if_neg (by decide), e_X12_beside_25, h24, xg_pos (by omega), xg_pos (by omega), if_neg (by decide), if_pos rfl, q1, fin _ _ (by omega) (by omega)]
    congr 2
    rw [besV_0]
    rcases W_c hW with rfl | rfl | rfl | rfl | rfl | rfl | rfl <;>
    · split <;> split <;> omega
  · rw [if_pos rfl, e_X12_beside_25, h24, xg_pos (by omega), xg_pos (by omega), if_neg (by decide), if_neg (by decide), q1, fin _ _ (by omega) (by omega)]
    congr 2
    rw [besV_1]
    rcases W_c hW with rfl | rfl | rfl | rfl | rfl | rfl | rfl <;>
    · split <;> split <;> omega
  · rw [if_neg (by decide), if_neg (by decide), e_X12_beside_25, h24, xg_pos (by omega), xg_pos (by omega), if_pos rfl, q1, fin _ _ (by omega) (by omega)]
    congr 2
    rw [besV_2]
    rcases W_c hW with rfl | rfl | rfl | rfl | rfl | rfl | rfl <;>
    · split <;> split <;> omega
  · rw [if_neg (by decide), if_pos rfl, e_X12_beside_25, h24, xg_pos (by omega), xg_pos (by omega), if_neg (by decide), if_neg (by decide), q1, fin _ _ (by omega) (by omega)]
    congr 2
    rw [besV_3]
    rcases W_c hW with rfl | rfl | rfl | rfl | rfl | rfl | rfl <;>
    · split <;> split <;> omega
end
section
/-! drifting; meet -/
def drV (W H p s : Int) : Int := if besV W H p s = -1 then p else besV W H p s
theorem drV_b {W H p s : Int} (hW : 2 ≤ W ∧ W ≤ 8) (hH : 2 ≤ H ∧ H ≤ 8) (hp : 0 ≤ p ∧ p < W * H) : 0 ≤ drV W H p s ∧ drV W H p s < W * H := by
  unfold drV
  by_cases c : besV W H p s = -1
  · rw [if_pos c]; exact hp
  · rw [if_neg c]
    rcases besV_b (s := s) hW hH hp with w | w
    · exact absurd w c
    · exact w
theorem besV_4 {W H p : Int} : besV W H p 4 = -1 := by
  unfold besV
  rw [if_neg (by decide), if_neg (by decide), if_neg (by decide), if_neg (by decide)]
theorem drV_4 {W H p : Int} : drV W H p 4 = p := by
  unfold drV
  rw [if_pos besV_4]
theorem drift_l {W H : Int} {S : Nat} {pos drv : Nat → Int} (hW : 2 ≤ W ∧ W ≤ 8) (hH : 2 ≤ H ∧ H ≤ 8) (hS : S ≤ 6) (hpos : ∀ i, i < S → 0 ≤ pos i ∧ pos i < W * H) (hdrv : ∀ i, i < S → 0 ≤ drv i ∧ drv i ≤ 4) : ∀ (m k n : Nat) (g : yH), k + m = S → m < n → rQ g → g 35 24 = W → g 35 25 = H → g 35 35 = (S : Int) → (∀ i, k ≤ i → i < S → g 13 i = pos i) → (∀ i, k ≤ i → i < S → g 15 i = drv i) →
    ∃ g2, xl_X12_driftAll n 2 [35, (k : Int)] g = some (0, g2) ∧ (∀ i, k ≤ i → i < S → g2 13 i = drV W H (pos i) (drv i)) ∧ ∀ a j, ¬ (a = 13 ∧ k ≤ j ∧ j < S) → g2 a j = g a j := by
  intro m
  induction m with
  | zero =>
    intro k n g e1 e2 hq h24 h25 h35 hp hd
    obtain ⟨n, rfl⟩ : ∃ n', n = n' + 1 := ⟨n - 1, by omega⟩
    refine ⟨g, ?_, fun i h1 h2 => by omega, fun _ _ _ => rfl⟩
    rw [e_X12_driftAll_2, h35, if_neg (by omega)]
  | succ m ih =>
    intro k n g e1 e2 hq h24 h25 h35 hp hd
    obtain ⟨n, rfl⟩ : ∃ n', n = n' + 1 := ⟨n - 1, by omega⟩
    have P : ∀ {j : Nat} {kk : Int}, (j, kk) ∈ rQL → g 35 j = kk := fun hm => hq.p hm
    have bp := hpos k (by omega)
    have bd := hdrv k (by omega)
    have key : xl_X12_driftAll (n + 1) 2 [35, (k : Int)] g = xl_X12_driftAll n 2 [35, ((k + 1 : Nat) : Int)] (zup g 13 k (drV W H (pos k) (drv k))) := by
      rw [e_X12_driftAll_2, h35, if_pos (by omega), xg_pos (P (j := 38) (kk := 15) (by decide)), xg_pos (by omega), Int.toNat_natCast, hd k (Nat.le_refl _) (by omega)]
      by_cases c4 : drv k = 4
      · rw [if_pos c4, e_X12_driftAll_40, xg_pos (P (j := 36) (kk := 13) (by decide)), if_pos rfl, xg_pos (P (j := 36) (kk := 13) (by decide)), xg_pos (by omega), xg_pos (by omega), xg_pos (by omega), Int.toNat_natCast, hp k (Nat.le_refl _) (by omega), c4, drV_4, show (k : Int) + 1 = ((k + 1 : Nat) : Int) by omega]
      · rw [if_neg c4, xg_pos (P (j := 36) (kk := 13) (by decide)), xg_pos (by omega), xg_pos (P (j := 38) (kk := 15) (by decide)), xg_pos (by omega), hp k (Nat.le_refl _) (by omega), besR_e h24 h25 hW hH bp (by omega), xb_some, e_X12_driftAll_40, xg_pos (P (j := 36) (kk := 13) (by decide))]
        unfold drV
        by_cases c : besV W H (pos k) (drv k) = -1
        · rw [if_pos c, if_pos c, xg_pos (P (j := 36) (kk := 13) (by decide)), xg_pos (by omega), xg_pos (by omega), xg_pos (by omega), Int.toNat_natCast, hp k (Nat.le_refl _) (by omega), show (k : Int) + 1 = ((k + 1 : Nat) : Int) by omega]
        · rw [if_neg c, if_neg c, xg_pos (by omega), xg_pos (by omega), Int.toNat_natCast, show (k : Int) + 1 = ((k + 1 : Nat) : Int) by omega]
    obtain ⟨g2, f1, f2, f3⟩ := ih (k + 1) n (zup g 13 k (drV W H (pos k) (drv k))) (by omega) (by omega) (hq.up (Or.inl (by decide))) (by rw [zup_ne (by omega)]; exact h24) (by rw [zup_ne (by omega)]; exact h25) (by rw [zup_ne (by omega)]; exact h35) (fun i h1 h2 => by rw [zup_ne (by omega)]; exact hp i (by omega) h2) (fun i h1 h2 => by rw [zup_ne (by omega)]; exact hd i (by omega) h2)
    refine ⟨g2, key.trans f1, fun i h1 h2 => ?_, fun a j w => by rw [f3 a j (by omega), zup_ne (by omega)]⟩
    by_cases q : i = k
    · rw [q, f3 13 k (by omega), zup_at]
    · exact f2 i (by omega) h2
theorem drift_e {n S : Nat} {W H : Int} {pos drv : Nat → Int} {g : yH} (hn : 7 ≤ n) (hW : 2 ≤ W ∧ W ≤ 8) (hH : 2 ≤ H ∧ H ≤ 8) (hS : S ≤ 6) (hpos : ∀ i, i < S → 0 ≤ pos i ∧ pos i < W * H) (hdrv : ∀ i, i < S → 0 ≤ drv i ∧ drv i ≤ 4) (hq : rQ g) (h24 : g 35 24 = W) (h25 : g 35 25 = H) (h35 : g 35 35 = (S : Int)) (hp : ∀ i, i < S → g 13 i = pos i) (hd : ∀ i, i < S → g 15 i = drv i) : ∃ g2, f_X12_driftAll n [35] g = some (0, g2) ∧ (∀ i, i < S → g2 13 i = drV W H (pos i) (drv i)) ∧ ∀ a j, ¬ (a = 13 ∧ j < S) → g2 a j = g a j := by
  rw [e_X12_driftAll]
  obtain ⟨g2, f1, f2, f3⟩ := drift_l hW hH hS hpos hdrv S 0 n g (by omega) (by omega) hq h24 h25 h35 (fun i _ h => hp i h) (fun i _ h => hd i h)
  exact ⟨g2, f1, fun i h => f2 i (Nat.zero_le _) h, fun a j w => f3 a j (by omega)⟩
/-- where shoal k is at an hour -/
def dps (t : Nat → Int) (k : Nat) : Nat → Int
  | 0 => t (19 + 3 * k)
  | n + 1 => drV (t 0) (t 1) (dps t k n) (t (21 + 3 * k))
theorem dps_b {t : Nat → Int} {k : Nat} (hW : tW0 t) (hh : wh0 t) (hk : (k : Int) < t 5) : ∀ n, 0 ≤ dps t k n ∧ dps t k n < t 0 * t 1 := by
  have w5 := hW.sl
  have sk := hW.sh (k := k) (by omega)
  intro n
  induction n with
  | zero => exact ⟨sk.1.1, hh.1 k (by omega) hk⟩
  | succ n ih => exact drV_b hW.1 hW.2.1 ih
def mtA (t : Nat → Int) (a b : Nat) : Nat → Nat → Int
  | 0, _ => -1
  | m + 1, v => if dps t a v = dps t b v then (v : Int) else mtA t a b m (v + 1)
theorem meetC_l {b a k : Nat} {x1 : Int} {t : Nat → Int} {h : yH} (hS : cS b t h) (hp : cSp b h) (hW : tW0 t) (hh : wh0 t) (ha : (a : Int) < t 5) (hk : (k : Int) < t 5) : ∀ (m v n : Nat), m + v = 61 → m < n → xl_X11_meet n 61 [1, x1, (a : Int), (k : Int), (b : Int), dps t a v, dps t k v, (v : Int)] h = some (mtA t a k m v, h) := by
  have w5 := hW.sl
  intro m
  induction m with
  | zero =>
    intro v n e1 e2
    obtain ⟨n, rfl⟩ : ∃ n', n = n' + 1 := ⟨n - 1, by omega⟩
    rw [e_X11_meet_61, if_pos (by omega)]
    rfl
  | succ m ih =>
    intro v n e1 e2
    obtain ⟨n, rfl⟩ : ∃ n', n = n' + 1 := ⟨n - 1, by omega⟩
    have e4 : ((b : Int) + 4).toNat = b + 4 := by omega
    rw [e_X11_meet_61, if_neg (by omega), Int.toNat_natCast, Int.toNat_natCast, Int.toNat_natCast, e4]
    show _ = some (if dps t a v = dps t k v then (v : Int) else mtA t a k m (v + 1), h)
    by_cases c : dps t a v = dps t k v
    · rw [if_pos c, if_pos c]
    · rw [if_neg c, if_neg c, xg_pos (by omega), xg_pos (by omega), xg_pos hp.2.2.2.1, xg_pos (by omega), (hS.2.2.2.2.2.2.2.2.2.1 a ha).2.2, drC_e hS.1 hS.2.1 hW.1 hW.2.1 (dps_b hW hh ha v), xb_some, xg_pos (by omega), xg_pos (by omega), xg_pos hp.2.2.2.1, xg_pos (by omega), (hS.2.2.2.2.2.2.2.2.2.1 k hk).2.2, drC_e hS.1 hS.2.1 hW.1 hW.2.1 (dps_b hW hh hk v), xb_some, xg_pos (by omega), show (v : Int) + 1 = ((v + 1 : Nat) : Int) by omega]
      exact ih (v + 1) n (by omega) (by omega)
/-- what meet answers -/
def metV (t : Nat → Int) (x y : Int) : Int := if x ≠ y ∧ (0 ≤ x ∧ x < t 5) ∧ 0 ≤ y ∧ y < t 5 then mtA t x.toNat y.toNat 61 0 else -1
theorem meetC_e {n s : Nat} {x y : Int} {t : Nat → Int} {h : yH} (hn : 70 ≤ n) (hP : cP h) (hb : h 6 0 ≤ 2) (hs : (s : Int) < h 6 0) (hS : cS (20 + 10 * s) t h) (hp : cSp (20 + 10 * s) h) (hW : tW0 t) (hh : wh0 t) : f_X11_meet n [1, (s : Int), x, y] h = some (metV t x y, h) := by
  have w5 := hW.sl
  rw [e_X11_meet, xg_pos (hP.p (by decide)), findSea_e hP hb, xb_some, if_pos (show 0 ≤ (s : Int) ∧ (s : Int) < h 6 0 by omega), if_neg (by omega)]
  unfold metV
  by_cases c0 : x = y
  · rw [if_pos c0, if_neg (fun w => w.1 c0)]
  rw [if_neg c0, xg_pos (by omega), show 20 + 10 * (s : Int) = ((20 + 10 * s : Nat) : Int) by omega, hasShoal_e hS, xb_some]
  by_cases c : 0 ≤ x ∧ x < t 5
  · rw [if_pos c, if_neg (by decide), xg_pos (by omega), hasShoal_e hS, xb_some]
    by_cases c2 : 0 ≤ y ∧ y < t 5
    · obtain ⟨a, rfl⟩ : ∃ a : Nat, x = (a : Int) := ⟨x.toNat, by omega⟩
      obtain ⟨k, rfl⟩ : ∃ k : Nat, y = (k : Int) := ⟨y.toNat, by omega⟩
      have e2 : (((20 + 10 * s : Nat) : Int) + 2).toNat = 20 + 10 * s + 2 := by omega
      have l := meetC_l (x1 := (s : Int)) hS hp hW hh c.2 c2.2 61 0 n rfl (by omega)
      rw [if_pos c2, if_neg (by decide), if_pos ⟨c0, c, c2⟩, xg_pos (by omega), Int.toNat_natCast, Int.toNat_natCast, Int.toNat_natCast, e2, xg_pos hp.2.1, xg_pos (by omega), xg_pos (by omega), xg_pos hp.2.1, xg_pos (by omega), (hS.2.2.2.2.2.2.2.2.2.1 a c.2).1, (hS.2.2.2.2.2.2.2.2.2.1 k c2.2).1]
      exact l
    · rw [if_neg c2, if_pos rfl, if_neg (fun w => c2 w.2.2)]
  · rw [if_neg c, if_pos rfl, if_neg (fun w => c w.2.1)]
theorem meetR_l {a k : Nat} {x1 : Int} {t : Nat → Int} (hW : tW0 t) (hh : wh0 t) (ha : (a : Int) < t 5) (hk : (k : Int) < t 5) : ∀ (m v n : Nat) (g : yH), m + v = 61 → m + 8 ≤ n → rQ g → g 35 24 = t 0 → g 35 25 = t 1 → g 35 35 = t 5 → (∀ i : Nat, (i : Int) < t 5 → g 13 i = dps t i v ∧ g 15 i = t (21 + 3 * i)) →
    yR (xl_X12_meet n 39 [35, x1, (a : Int), (k : Int), (v : Int)] g) (fun r g2 => r = mtA t a k m v ∧ ∀ a j, a ≠ 13 → g2 a j = g a j) := by
  have w5 := hW.sl
  intro m
  induction m with
  | zero =>
    intro v n g e1 e2 hq h24 h25 h35 hs
    obtain ⟨n, rfl⟩ : ∃ n', n = n' + 1 := ⟨n - 1, by omega⟩
    rw [e_X12_meet_39, if_pos (by omega)]
    exact yR.s ⟨rfl, fun _ _ _ => rfl⟩
  | succ m ih =>
    intro v n g e1 e2 hq h24 h25 h35 hs
    obtain ⟨n, rfl⟩ : ∃ n', n = n' + 1 := ⟨n - 1, by omega⟩
    rw [e_X12_meet_39, if_neg (by omega), xg_pos (hq.p (j := 36) (k := 13) (by decide)), xg_pos (by omega), xg_pos (hq.p (j := 36) (k := 13) (by decide)), xg_pos (by omega), Int.toNat_natCast, Int.toNat_natCast, (hs a ha).1, (hs k hk).1]
    show yR _ (fun r g2 => r = (if dps t a v = dps t k v then (v : Int) else mtA t a k m (v + 1)) ∧ ∀ a j, a ≠ 13 → g2 a j = g a j)
    by_cases c : dps t a v = dps t k v
    · rw [if_pos c, if_pos c]
      exact yR.s ⟨rfl, fun _ _ _ => rfl⟩
    · obtain ⟨g2, f1, f2, f3⟩ := drift_e (n := n) (S := (t 5).toNat) (g := g) (pos := fun i => dps t i v) (drv := fun i => t (21 + 3 * i)) (by omega) hW.1 hW.2.1 (by omega) (fun i hi => dps_b hW hh (by omega) v) (fun i hi => by have := hW.sh (k := i) (by omega); exact this.2.2) hq h24 h25 (by rw [h35]; omega) (fun i hi => (hs i (by omega)).1) (fun i hi => (hs i (by omega)).2)
      rw [if_neg c, if_neg c, f1, xb_some, xg_pos (by omega), show (v : Int) + 1 = ((v + 1 : Nat) : Int) by omega]
      exact (ih (v + 1) n g2 (by omega) (by omega) (hq.fr (fun j _ => f3 _ _ (by omega))) (by rw [f3 _ _ (by omega)]; exact h24) (by rw [f3 _ _ (by omega)]; exact h25) (by rw [f3 _ _ (by omega)]; exact h35) (fun i hi => ⟨f2 i (by omega), by rw [f3 _ _ (by omega)]; exact (hs i hi).2⟩)).m (fun r g3 ⟨r1, r2⟩ => ⟨r1, fun a j w => (r2 a j w).trans (f3 a j (by omega))⟩)
theorem meetR_e {m s : Nat} {x y : Int} {t : Nat → Int} {g : yH} (hn : 80 ≤ m) (hq : rQ g) (h4 : ∀ j, j < 12 → 0 ≤ g 4 j ∧ g 4 j ≤ 2) (hs : (s : Int) < g 4 0) (ht : ∀ j, j < 50 → g 5 (50 * s + j) = t j) (hW : tW0 t) (hh : wh0 t) : yR (f_X12_meet m [35, (s : Int), x, y] g) (fun v g2 => v = metV t x y ∧ ∃ g1, lyR s t (zup g 35 0 0) g1 ∧ ∀ a j, a ≠ 13 → g2 a j = g1 a j) := by
  have w5 := hW.sl
  refine yR.e e_X12_meet ?_
  refine yR.b (layTold_e (by omega) (c0_q hq) (c0_4 h4) (by rw [zup_ne (by omega)]; exact hs) (fun j hj => by rw [zup_ne (by omega)]; exact ht j hj) hW) (fun v g1 ⟨rv, H⟩ => ?_)
  subst rv
  refine yR.f (by decide) ?_
  rw [isThere_e H.1 hW, xb_some]
  unfold metV
  by_cases c : 0 ≤ x ∧ x < t 5
  · rw [if_pos c, if_neg (by decide), isThere_e H.1 hW, xb_some]
    by_cases c2 : 0 ≤ y ∧ y < t 5
    · rw [if_pos c2, if_neg (by decide)]
      by_cases c0 : x = y
      · rw [if_pos c0, if_neg (fun w => w.1 c0)]
        exact yR.s ⟨rfl, g1, H, fun _ _ _ => rfl⟩
      · obtain ⟨a, rfl⟩ : ∃ a : Nat, x = (a : Int) := ⟨x.toNat, by omega⟩
        obtain ⟨k, rfl⟩ : ∃ k : Nat, y = (k : Int) := ⟨y.toNat, by omega⟩
        rw [if_neg c0, if_pos ⟨c0, c, c2⟩, Int.toNat_natCast, Int.toNat_natCast]
        obtain ⟨T1, T2, T3, T4⟩ := id H.1
        have l := meetR_l (x1 := (s : Int)) hW hh c.2 c2.2 61 0 m g1 rfl (by omega) T1.1.2.2.2 T1.2.2.1 T1.2.2.2.1 T3 (fun i hi => by
          obtain ⟨x1, x2, x3, -⟩ := T4 i (by omega)
          exact ⟨x1.trans (if_pos hi), x3.trans (if_pos hi)⟩)
        exact l.m (fun r g2 ⟨r1, r2⟩ => ⟨r1, g1, H, r2⟩)
    · rw [if_neg c2, if_pos rfl, if_neg (fun w => c2 w.2.2)]
      exact yR.s ⟨rfl, g1, H, fun _ _ _ => rfl⟩
  · rw [if_neg c, if_pos rfl, if_neg (fun w => c w.2.1)]
    exact yR.s ⟨rfl, g1, H, fun _ _ _ => rfl⟩
end
section
/-! a question to a sea leaves what is told -/
theorem WH.k7 {g g2 : yH} (h : WH g) (e : k7 g g2) : WH g2 := h.fr (fun a j w => e a j (by omega) (by omega))
theorem k7.c0 {g : yH} : k7 g (zup g 35 0 0) := fun a j w1 w2 => zup_ne (by omega)
theorem hdR.k7 {s : Nat} {t : Nat → Int} {g g2 : yH} (H : hdR s t (zup g 35 0 0) g2) : k7 g g2 := fun a j w1 w2 => by rw [H.2.2.2 a j (by omega) (by omega) (by omega), zup_ne (by omega)]
theorem lyR.k7 {s : Nat} {t : Nat → Int} {g g2 : yH} (H : lyR s t (zup g 35 0 0) g2) : k7 g g2 := fun a j w1 w2 => by rw [H.2.2.2 a j (by omega), zup_ne (by omega)]
theorem ask_k7 {r : yFn} {x v : Int} {As : List Int} {m : Nat} {h g g2 : yH} (R : RR True h g) (h4 : ∀ j, j < 12 → 0 ≤ g 4 j ∧ g 4 j ≤ 2) (e : r m (35 :: x :: As) g = some (v, g2)) (rn : ¬ (0 ≤ x ∧ x < g 4 0) → yR (r m (35 :: x :: As) g) (fun _ g2 => k7 g g2))
    (ask : ∀ (s : Nat) (t : Nat → Int), x = (s : Int) → (s : Int) < g 4 0 → tW0 t → (∀ j, j < 50 → g 5 (50 * s + j) = t j) → yR (r m (35 :: x :: As) g) (fun _ g2 => k7 g g2)) : k7 g g2 := by
  have b0 := h4 0 (by decide)
  by_cases w : 0 ≤ x ∧ x < g 4 0
  · obtain ⟨s, rfl⟩ : ∃ s : Nat, x = (s : Int) := ⟨x.toNat, by omega⟩
    obtain ⟨t, a1, a2, a3, a4⟩ := R.sea (s := s) (by omega) (by omega)
    exact yO_d e (ask s t rfl w.2 a4 a3)
  · exact yO_d e (rn w)
theorem frK_sea {m : Nat} {x w v : Int} {h g g2 : yH} (hn : 7 ≤ m) (R : RR True h g) (hq : rQ g) (h4 : ∀ j, j < 12 → 0 ≤ g 4 j ∧ g 4 j ≤ 2) (e : f_X12_sea m [35, x, w] g = some (v, g2)) : k7 g g2 :=
  ask_k7 R h4 e (fun c => ⟨-1, zup g 35 0 0, by rw [e_X12_sea, hand_n (c0_q hq) (c0_4 h4) (by rw [zup_ne (by omega)]; exact c), xb_some, if_pos rfl], k7.c0⟩) (fun s t ex hs hW ht => by subst ex; exact (seaR_e hn hq h4 hs ht hW).m (fun _ _ q => hdR.k7 q.2))
theorem frK_shoal {m : Nat} {x k w v : Int} {h g g2 : yH} (hn : 7 ≤ m) (R : RR True h g) (hq : rQ g) (h4 : ∀ j, j < 12 → 0 ≤ g 4 j ∧ g 4 j ≤ 2) (e : f_X12_shoal m [35, x, k, w] g = some (v, g2)) : k7 g g2 :=
  ask_k7 R h4 e (fun c => ⟨-1, zup g 35 0 0, by rw [e_X12_shoal, hand_n (c0_q hq) (c0_4 h4) (by rw [zup_ne (by omega)]; exact c), xb_some, if_pos rfl], k7.c0⟩) (fun s t ex hs hW ht => by subst ex; exact (shoalR_e hn hq h4 hs ht hW).m (fun _ _ q => hdR.k7 q.2))
theorem frK_boat {m : Nat} {x k w v : Int} {h g g2 : yH} (hn : 7 ≤ m) (R : RR True h g) (hq : rQ g) (h4 : ∀ j, j < 12 → 0 ≤ g 4 j ∧ g 4 j ≤ 2) (e : f_X12_boat m [35, x, k, w] g = some (v, g2)) : k7 g g2 :=
  ask_k7 R h4 e (fun c => ⟨-1, zup g 35 0 0, by rw [e_X12_boat, hand_n (c0_q hq) (c0_4 h4) (by rw [zup_ne (by omega)]; exact c), xb_some, if_pos rfl], k7.c0⟩) (fun s t ex hs hW ht => by subst ex; exact (boatR_e hn hq h4 hs ht hW).m (fun _ _ q => hdR.k7 q.2))
theorem frK_far {m : Nat} {x k w v : Int} {h g g2 : yH} (hn : 7 ≤ m) (R : RR True h g) (hq : rQ g) (h4 : ∀ j, j < 12 → 0 ≤ g 4 j ∧ g 4 j ≤ 2) (e : f_X12_far m [35, x, k, w] g = some (v, g2)) : k7 g g2 :=
  ask_k7 R h4 e (fun c => ⟨-1, zup g 35 0 0, by rw [e_X12_far, hand_n (c0_q hq) (c0_4 h4) (by rw [zup_ne (by omega)]; exact c), xb_some, if_pos rfl], k7.c0⟩) (fun s t ex hs hW ht => by subst ex; exact (farR_e hn hq h4 hs ht hW).m (fun _ _ q => hdR.k7 q.2))
theorem frK_loud {m : Nat} {x v : Int} {h g g2 : yH} (hn : 24 ≤ m) (R : RR True h g) (hq : rQ g) (h4 : ∀ j, j < 12 → 0 ≤ g 4 j ∧ g 4 j ≤ 2) (e : f_X12_loud m [35, x] g = some (v, g2)) : k7 g g2 :=
  ask_k7 R h4 e (fun c => ⟨-1, zup g 35 0 0, by rw [e_X12_loud, hand_n (c0_q hq) (c0_4 h4) (by rw [zup_ne (by omega)]; exact c), xb_some, if_pos rfl], k7.c0⟩) (fun s t ex hs hW ht => by
    subst ex
    refine yR.e e_X12_loud (yR.b (hand_e (s := s) (t := t) (by omega) (c0_q hq) (c0_4 h4) (by rw [zup_ne (by omega)]; exact hs) (fun j hj => by rw [zup_ne (by omega)]; exact ht j hj) hW) (fun v5 g5 ⟨rv, H⟩ => ?_))
    subst rv
    refine yR.f (by decide) ?_
    have l := loudR_l (x1 := (s : Int)) H.v hW 7 0 m (-1) (-1) rfl hW.wd.2.2.2.2.1 hn
    exact ⟨_, g5, l, hdR.k7 H⟩)
theorem frK_tells {m : Nat} {x w v : Int} {h g g2 : yH} (hn : 800 ≤ m) (R : RR True h g) (hq : rQ g) (h4 : ∀ j, j < 12 → 0 ≤ g 4 j ∧ g 4 j ≤ 2) (e : f_X12_tells m [35, x, w] g = some (v, g2)) : k7 g g2 :=
  ask_k7 R h4 e (fun c => ⟨-1, zup g 35 0 0, by rw [e_X12_tells, hand_n (c0_q hq) (c0_4 h4) (by rw [zup_ne (by omega)]; exact c), xb_some, if_pos rfl], k7.c0⟩) (fun s t ex hs hW ht => by subst ex; exact (tellsR_e hn hq h4 hs ht hW).m (fun _ g2 ⟨_, g1, H, fr⟩ => fun a j w1 w2 => (fr a j (by omega)).trans (hdR.k7 H a j w1 w2)))
theorem frK_least {m : Nat} {x k w v : Int} {h g g2 : yH} (hn : 60 ≤ m) (R : RR True h g) (hq : rQ g) (h4 : ∀ j, j < 12 → 0 ≤ g 4 j ∧ g 4 j ≤ 2) (e : f_X12_least m [35, x, k, w] g = some (v, g2)) : k7 g g2 :=
  ask_k7 R h4 e (fun c => ⟨-1, zup g 35 0 0, by rw [e_X12_least, layTold_n (c0_q hq) (c0_4 h4) (by rw [zup_ne (by omega)]; exact c), xb_some, if_pos rfl], k7.c0⟩) (fun s t ex hs hW ht => by subst ex; exact (leastR_e hn hq h4 hs ht hW).m (fun _ g2 ⟨_, g1, H, fr⟩ => fun a j w1 w2 => (fr a j (by omega)).trans (lyR.k7 H a j w1 w2)))
theorem frK_winds {m : Nat} {x w v : Int} {h g g2 : yH} (hn : 160 ≤ m) (R : RR True h g) (hq : rQ g) (h4 : ∀ j, j < 12 → 0 ≤ g 4 j ∧ g 4 j ≤ 2) (e : f_X12_winds m [35, x, w] g = some (v, g2)) : k7 g g2 := by
  by_cases c2 : 0 ≤ w ∧ w ≤ 2
  · refine ask_k7 R h4 e (fun c => ⟨-1, zup g 35 0 0, by rw [e_X12_winds, in_t c2, xb_some, if_neg (by decide), hand_n (c0_q hq) (c0_4 h4) (by rw [zup_ne (by omega)]; exact c), xb_some, if_pos rfl], k7.c0⟩) (fun s t ex hs hW ht => ?_)
    subst ex
    obtain ⟨v5, g5, e5, rv, H⟩ := hand_e (n := m) (s := s) (t := t) (by omega) (c0_q hq) (c0_4 h4) (by rw [zup_ne (by omega)]; exact hs) (fun j hj => by rw [zup_ne (by omega)]; exact ht j hj) hW
    subst rv
    obtain ⟨v6, g6, e6, rv6, f6⟩ := wndR_l (x1 := (s : Int)) (w := w) (n := m) hW (g := g5) ⟨H.1, H.2.1.1, H.2.1.2.1, H.2.1.2.2.2.2.2, H.2.2.1⟩ (by omega)
    refine ⟨v6, g6, ?_, fun a j w1 w2 => (f6 a j (by omega)).trans (hdR.k7 H a j w1 w2)⟩
    rw [e_X12_winds, in_t c2, xb_some, if_neg (by decide), e5, xb_some, if_neg (by decide), e6]
  · refine yO_d (P := fun _ g2 => k7 g g2) e ?_
    rw [e_X12_winds, in_f c2, xb_some, if_pos rfl]
    exact yR.s k7.c0
/-- the sea in the block, whole -/
theorem WH.sea {s : Nat} {t : Nat → Int} {g : yH} (h : WH g) (hs : s < 2) (hm : (s : Int) < g 4 0) (ht : ∀ j, j < 50 → g 5 (50 * s + j) = t j) : wh0 t := ((h 0 (by decide)).1 s hs hm).c (fun j hj => by
  show t j = g 5 (100 * 0 + 50 * s + j)
  rw [← ht j hj, show 100 * 0 + 50 * s + j = 50 * s + j by omega])
theorem RR_meet {m n : Nat} {x k w : Int} {h g : yH} (hn : 70 ≤ n) (hm2 : 80 ≤ m) (R : RR True h g) (wh : WH g) (hL : lnI h) (hm : h 4 1 ≤ 600) (hq : rQ g) (h4 : ∀ j, j < 12 → 0 ≤ g 4 j ∧ g 4 j ≤ 2) : ∃ v h2 g2, f_X11_meet n [1, x, k, w] h = some (v, h2) ∧ f_X12_meet m [35, x, k, w] g = some (v, g2) ∧ RR True h2 g2 ∧ ∀ a j, h2 a j = h a j := by
  have hP := R.1
  have n0 := R.n6 (j := 0) (by decide)
  have b0 := h4 0 (by decide)
  refine RR_ask (k := 0) (none' := -1) R hL hm hq h4 (fun c => ?_) (fun c => ?_) (fun s t e hs h6 h4' hW hS hp ht => ?_)
  · rw [e_X11_meet, xg_pos (hP.p (by decide)), findSea_e hP (by omega), xb_some, if_neg c, if_pos (by decide)]
  · refine ⟨-1, zup g 35 0 0, ?_, rfl, R.c0 hL hm⟩
    rw [e_X12_meet, layTold_n (c0_q hq) (c0_4 h4) (by rw [zup_ne (by omega)]; exact c), xb_some, if_pos rfl]
  · subst e
    have hh : wh0 t := wh.sea hs h4' ht
    obtain ⟨v, g2, e2, rv, g1, H, fr⟩ := meetR_e (m := m) (x := k) (y := w) hm2 hq h4 h4' ht hW hh
    subst rv
    have R1 : RR True h g1 := (R.c0 hL hm).ly hL hm H
    have q2 : rQ g2 := H.1.1.1.2.2.2.fr (fun j _ => fr _ _ (by omega))
    exact ⟨_, h, g2, meetC_e hn hP (by omega) h6 hS hp hW hh, e2, R1.gf hL hm q2.P (fun a j w => fr a j (by omega)), fun _ _ => rfl⟩
theorem frK_meet {m : Nat} {x k w v : Int} {h g g2 : yH} (hn : 80 ≤ m) (R : RR True h g) (wh : WH g) (hq : rQ g) (h4 : ∀ j, j < 12 → 0 ≤ g 4 j ∧ g 4 j ≤ 2) (e : f_X12_meet m [35, x, k, w] g = some (v, g2)) : k7 g g2 :=
  ask_k7 R h4 e (fun c => ⟨-1, zup g 35 0 0, by rw [e_X12_meet, layTold_n (c0_q hq) (c0_4 h4) (by rw [zup_ne (by omega)]; exact c), xb_some, if_pos rfl], k7.c0⟩) (fun s t ex hs hW ht => by
    subst ex
    have b0 := h4 0 (by decide)
    exact (meetR_e hn hq h4 hs ht hW (wh.sea (by omega) hs ht)).m (fun _ g2 ⟨_, g1, H, fr⟩ => fun a j w1 w2 => (fr a j (by omega)).trans (lyR.k7 H a j w1 w2)))
theorem frK_deed {F : Prop} {m : Nat} {x k w v : Int} {h g g2 : yH} (R : RR F h g) (h4 : ∀ j, j < 12 → 0 ≤ g 4 j ∧ g 4 j ≤ 2) (e : f_X12_deed m [35, x, k, w] g = some (v, g2)) : k7 g g2 := by
  have gP := R.2.1
  have b1 := h4 1 (by decide)
  by_cases c : 0 ≤ x ∧ x < g 4 1
  · obtain ⟨d, rfl⟩ : ∃ d : Nat, x = (d : Int) := ⟨x.toNat, by omega⟩
    obtain ⟨t, a1, a2, a3⟩ := R.2.2.1.2.2.2.2.2.2.1 d (by omega)
    have tw := a3 c.2
    have e2 := deedR_e (n := m) (k := k) (w := w) (t := t) gP h4 (d := d) (by omega) (by omega) (fun j hj => by rw [← a2 j hj, show 242 * 0 + 121 * d + j = 121 * d + j by omega]) tw.1
    exact yO_d (P := fun _ g2 => k7 g g2) e ⟨_, _, e2, fun a j w1 w2 => by rw [zup_ne (by omega), zup_ne (by omega)]⟩
  · have e2 : f_X12_deed m [35, x, k, w] g = some (-2, zup (zup g 35 0 0) 35 33 x) := by
      rw [e_X12_deed, hasDay_e (gP.fr (fun j hj => by rw [zup_ne (by omega)])) (fun j hj => by rw [zup_ne (by omega)]; exact h4 j hj), xb_some, zup_ne (show ¬ (4 = 35 ∧ 1 = 0) by omega), if_neg c, if_pos rfl]
    exact yO_d (P := fun _ g2 => k7 g g2) e ⟨_, _, e2, fun a j w1 w2 => by rw [zup_ne (by omega), zup_ne (by omega)]⟩
theorem frK_count {m : Nat} {x v : Int} {g g2 : yH} (gP : rP g) (e : f_X12_count m [35, x] g = some (v, g2)) : k7 g g2 := by
  refine yO_d (P := fun _ g2 => k7 g g2) e (yR.e e_X12_count ?_)
  by_cases w : 0 ≤ x ∧ x ≤ 2
  · rw [in_t w, xb_some, if_neg (by decide), xg_pos (by rw [zup_ne (by omega)]; exact gP.2.2.2.2.1), xg_pos (by omega)]
    exact yR.s k7.c0
  · rw [in_f w, xb_some, if_pos rfl]
    exact yR.s k7.c0
theorem frK_fault {m : Nat} {x v : Int} {g g2 : yH} (gP : rP g) (e : f_X12_fault m [35, x] g = some (v, g2)) : k7 g g2 := by
  refine yO_d (P := fun _ g2 => k7 g g2) e (yR.e e_X12_fault ?_)
  by_cases w : x = 0
  · rw [if_pos w, xg_pos gP.2.2.1]
    exact yR.s k7.c0
  · rw [if_neg w]
    by_cases w2 : x = 1
    · rw [if_pos w2, xg_pos gP.2.2.2.1]
      exact yR.s k7.c0
    · rw [if_neg w2]
      exact yR.s k7.c0
end
section
/-- followed where the seas' contents are -/
def cW (h g : yH) : Prop := cPw h ∧ WH g
theorem cW.p {h g : yH} (w : cW h g) : cPw h := w.1
theorem cW.c {h h2 g : yH} (w : cW h g) (e : cPw h2) : cW h2 g := ⟨e, w.2⟩
theorem cW.r {h g g2 : yH} (w : cW h g) (e : k7 g g2) : cW h g2 := ⟨w.1, w.2.k7 e⟩
/-- what is told alike, and what else is followed -/
def RW (F : Prop) (h g : yH) : Prop := RR F h g ∧ (F → cW h g)
end
section
theorem dX8_init_0 : decode cX8_init 0 = .ok (.aload_n 0, 1) := by decide +kernel
theorem dX8_init_1 : decode cX8_init 1 = .ok (.invokespecial 3, 3) := by decide +kernel
theorem dX8_init_4 : decode cX8_init 4 = .ok (.aload_n 0, 1) := by decide +kernel
theorem dX8_init_5 : decode cX8_init 5 = .ok (.sipush 600, 3) := by decide +kernel
theorem dX8_init_8 : decode cX8_init 8 = .ok (.newarray .byte, 2) := by decide +kernel
theorem dX8_init_10 : decode cX8_init 10 = .ok (.putfield 9, 3) := by decide +kernel
theorem dX8_init_13 : decode cX8_init 13 = .ok (.return_, 1) := by decide +kernel
theorem dX6_init_0 : decode cX6_init 0 = .ok (.aload_n 0, 1) := by decide +kernel
theorem dX6_init_1 : decode cX6_init 1 = .ok (.invokespecial 3, 3) := by decide +kernel
theorem dX6_init_4 : decode cX6_init 4 = .ok (.aload_n 0, 1) := by decide +kernel
theorem dX6_init_5 : decode cX6_init 5 = .ok (.bipush 12, 2) := by decide +kernel
theorem dX6_init_7 : decode cX6_init 7 = .ok (.newarray .int, 2) := by decide +kernel
theorem dX6_init_9 : decode cX6_init 9 = .ok (.putfield 9, 3) := by decide +kernel
theorem dX6_init_12 : decode cX6_init 12 = .ok (.aload_n 0, 1) := by decide +kernel
theorem dX6_init_13 : decode cX6_init 13 = .ok (.iconst 4, 1) := by decide +kernel
theorem dX6_init_14 : decode cX6_init 14 = .ok (.newarray .int, 2) := by decide +kernel
theorem dX6_init_16 : decode cX6_init 16 = .ok (.putfield 15, 3) := by decide +kernel
theorem dX6_init_19 : decode cX6_init 19 = .ok (.aload_n 0, 1) := by decide +kernel
theorem dX6_init_20 : decode cX6_init 20 = .ok (.iconst 4, 1) := by decide +kernel
theorem dX6_init_21 : decode cX6_init 21 = .ok (.newarray .int, 2) := by decide +kernel
theorem dX6_init_23 : decode cX6_init 23 = .ok (.putfield 18, 3) := by decide +kernel
theorem dX6_init_26 : decode cX6_init 26 = .ok (.aload_n 0, 1) := by decide +kernel
theorem dX6_init_27 : decode cX6_init 27 = .ok (.iconst 4, 1) := by decide +kernel
theorem dX6_init_28 : decode cX6_init 28 = .ok (.newarray .int, 2) := by decide +kernel
theorem dX6_init_30 : decode cX6_init 30 = .ok (.putfield 21, 3) := by decide +kernel
theorem dX6_init_33 : decode cX6_init 33 = .ok (.aload_n 0, 1) := by decide +kernel
theorem dX6_init_34 : decode cX6_init 34 = .ok (.bipush 6, 2) := by decide +kernel
theorem dX6_init_36 : decode cX6_init 36 = .ok (.newarray .int, 2) := by decide +kernel
theorem dX6_init_38 : decode cX6_init 38 = .ok (.putfield 24, 3) := by decide +kernel
theorem dX6_init_41 : decode cX6_init 41 = .ok (.aload_n 0, 1) := by decide +kernel
theorem dX6_init_42 : decode cX6_init 42 = .ok (.bipush 6, 2) := by decide +kernel
theorem dX6_init_44 : decode cX6_init 44 = .ok (.newarray .int, 2) := by decide +kernel
theorem dX6_init_46 : decode cX6_init 46 = .ok (.putfield 27, 3) := by decide +kernel
theorem dX6_init_49 : decode cX6_init 49 = .ok (.aload_n 0, 1) := by decide +kernel
theorem dX6_init_50 : decode cX6_init 50 = .ok (.bipush 6, 2) := by decide +kernel
theorem dX6_init_52 : decode cX6_init 52 = .ok (.newarray .int, 2) := by decide +kernel
theorem dX6_init_54 : decode cX6_init 54 = .ok (.putfield 30, 3) := by decide +kernel
theorem dX6_init_57 : decode cX6_init 57 = .ok (.return_, 1) := by decide +kernel
theorem dX1_init_0 : decode cX1_init 0 = .ok (.aload_n 0, 1) := by decide +kernel
theorem dX1_init_1 : decode cX1_init 1 = .ok (.invokespecial 3, 3) := by decide +kernel
theorem dX1_init_4 : decode cX1_init 4 = .ok (.aload_n 0, 1) := by decide +kernel
theorem dX1_init_5 : decode cX1_init 5 = .ok (.bipush 30, 2) := by decide +kernel
theorem dX1_init_7 : decode cX1_init 7 = .ok (.newarray .int, 2) := by decide +kernel
theorem dX1_init_9 : decode cX1_init 9 = .ok (.putfield 9, 3) := by decide +kernel
theorem dX1_init_12 : decode cX1_init 12 = .ok (.aload_n 0, 1) := by decide +kernel
theorem dX1_init_13 : decode cX1_init 13 = .ok (.bipush 90, 2) := by decide +kernel
theorem dX1_init_15 : decode cX1_init 15 = .ok (.newarray .int, 2) := by decide +kernel
theorem dX1_init_17 : decode cX1_init 17 = .ok (.putfield 15, 3) := by decide +kernel
theorem dX1_init_20 : decode cX1_init 20 = .ok (.return_, 1) := by decide +kernel
theorem dX2_init_0 : decode cX2_init 0 = .ok (.aload_n 0, 1) := by decide +kernel
theorem dX2_init_1 : decode cX2_init 1 = .ok (.invokespecial 3, 3) := by decide +kernel
theorem dX2_init_4 : decode cX2_init 4 = .ok (.aload_n 0, 1) := by decide +kernel
theorem dX2_init_5 : decode cX2_init 5 = .ok (.bipush 9, 2) := by decide +kernel
theorem dX2_init_7 : decode cX2_init 7 = .ok (.newarray .int, 2) := by decide +kernel
theorem dX2_init_9 : decode cX2_init 9 = .ok (.putfield 9, 3) := by decide +kernel
theorem dX2_init_12 : decode cX2_init 12 = .ok (.aload_n 0, 1) := by decide +kernel
theorem dX2_init_13 : decode cX2_init 13 = .ok (.bipush 9, 2) := by decide +kernel
theorem dX2_init_15 : decode cX2_init 15 = .ok (.newarray .int, 2) := by decide +kernel
theorem dX2_init_17 : decode cX2_init 17 = .ok (.putfield 15, 3) := by decide +kernel
theorem dX2_init_20 : decode cX2_init 20 = .ok (.aload_n 0, 1) := by decide +kernel
theorem dX2_init_21 : decode cX2_init 21 = .ok (.bipush 16, 2) := by decide +kernel
theorem dX2_init_23 : decode cX2_init 23 = .ok (.newarray .int, 2) := by decide +kernel
theorem dX2_init_25 : decode cX2_init 25 = .ok (.putfield 18, 3) := by decide +kernel
theorem dX2_init_28 : decode cX2_init 28 = .ok (.aload_n 0, 1) := by decide +kernel
theorem dX2_init_29 : decode cX2_init 29 = .ok (.bipush 16, 2) := by decide +kernel
theorem dX2_init_31 : decode cX2_init 31 = .ok (.newarray .int, 2) := by decide +kernel
theorem dX2_init_33 : decode cX2_init 33 = .ok (.putfield 21, 3) := by decide +kernel
theorem dX2_init_36 : decode cX2_init 36 = .ok (.return_, 1) := by decide +kernel
set_option maxHeartbeats 4000000 in
set_option maxRecDepth 100000 in
theorem c_X8_init (l : Launch) (D : va_G) (cy : Nat → ClassId) (h0 : Nat) (sz : Nat)  : Met l yX8_init wsX8_init ({ frames := 1, cells := 1, slots := 600, locals := 12 } : Room) (va_Pc [.ref h0] (PW D cy [(h0, .inr (8, [.null, .int 0]))] sz)) (va_Qv (fun _ : Unit => True) (fun _ t => ∃ (q_1 : Nat), va_P D vwCl [(h0, .inr (8, [.ref q_1, .int 0])), (q_1, .inl (cy 1, 600, .inl (fun _ => 0)))] t.heap ∧ va_D (va_A [(h0, .inr (8, [.null, .int 0]))] sz) [(h0, .inr (8, [.ref q_1, .int 0])), (q_1, .inl (cy 1, 600, .inl (fun _ => 0)))]) (va_A [(h0, .inr (8, [.null, .int 0]))] sz)) 1 600 (va_A [(h0, .inr (8, [.null, .int 0]))] sz) := by
  refine Met.ofW (cc := cX8_init) (maxL := 1) (ret := none) (by decide) rfl ?_
  intro p e s m args below meth c s₁ B hml hv
  obtain ⟨rfl, hsz, hP, hKW, hD0⟩ := hv
  have hK := hKW.1
  have hx := B.exec
  have hb := B.bytes
  have hr := B.returns
  have hts := atoms_spec (ws := wsX8_init) B.pre
  have hown : s.vm.findClass RX8 = some m.cls := findClass_of_methodNamed B.named
  have hlocks := B.notSynchronized
  have hin : meth.name = "<init>" := (name_of_methodNamed B.named B.method).1
  have in_8 : ∀ w ∈ u_ws RX8 TX8 2, w ∈ wsX8_init := by decide +kernel
  have hy_0 := hts (.methodLink RX8 3 objectInit) (by decide +kernel)
  have hy_1 := hts (.instanceMethod objectInit) (by decide +kernel)
  have hy_2 := hts (.code objectInit ⟨#[0xb1]⟩ 1 none) (by decide +kernel)
  have hy_3 := hts (.arrayClass .byte) (by decide +kernel)
  have fl_9 := hts (.fieldLink RX8 9 "ShoalClaims$Tape" "bytes" "[B") (by decide +kernel)
  subst hsz
  have hD := hD0.self (sz := s.heap.size)
  generalize hAe : va_A [(h0, .inr (8, [.null, .int 0]))] s.heap.size = A at hD ⊢
  have hA : ∀ q : Nat, s.heap.size ≤ q → A q := fun q h => by rw [← hAe]; exact Or.inr h
  have hS : va_S A s.heap s.heap [] := va_S.rf
  have hP : va_P D vwCl [(h0, .inr (8, [.null, .int 0]))] s.heap := hP
  have hl := lv_entry ([.ref h0]) (n := 1) (Nat.le_of_ble_eq_true rfl)
  rw [lg_entry_eq]
  generalize (lg_sl ([.ref h0]) ++ List.replicate (1 - (lg_sl ([.ref h0])).length) Slot.unset).toArray = ls at hl ⊢
  have hl : lv_has ls 1 [(0, .ref h0)] := hl
  refine lv_aload_n hx hb dX8_init_0 rfl (lv_at hl 0 rfl) ?_
  refine W.objInit hx hb hown hy_0 hy_1 hy_2 rfl (by rw [hml]; exact hl.1) rfl dX8_init_1 (Nat.le_of_ble_eq_true rfl) (Nat.le_of_ble_eq_true rfl) ?_
  refine W.eq (g2 := F0 m 4 ls []) rfl ?_
  refine lv_aload_n hx hb dX8_init_4 rfl (lv_at hl 0 rfl) ?_
  refine lv_sipush (v := 600) hx hb dX8_init_5 (by decide +kernel) ?_
  refine nw_a (atype := .byte) (ty := .byte) (cI := cy 1) (n := 600) hx hb hy_3 rfl hK hP hD hS hA 1 rfl rfl 600 (by decide +kernel) (by decide +kernel) (by decide +kernel) (by decide +kernel) (by decide +kernel) dX8_init_8 (fun q_1 H hP hD hS => ?_)
  have hP : va_P D vwCl [(h0, .inr (8, [.null, .int 0])), (q_1, .inl (cy 1, 600, .inl (fun _ => 0)))] H := hP
  have hD : va_D A [(h0, .inr (8, [.null, .int 0])), (q_1, .inl (cy 1, 600, .inl (fun _ => 0)))] := hD
  refine W.widen (k := 1) (n := 600) (by decide +kernel) (by decide +kernel) ?_
  refine va_putF (D := D) (ci := 8) (v := .ref q_1) (ty := .array .byte) (C := RX8) (T := TX8) (N := 2) hx hb hts in_8 tyX8 tyX8_ok nmX8 hown hK hP hD hS 0 rfl rfl 0 (by decide) fl_9 (fun _ h9 => h9) rfl hin rfl (by decide +kernel) rfl rfl (Nat.le_of_ble_eq_true rfl) dX8_init_10 (fun H locs hP hD hS => ?_)
  have hP : va_P D vwCl [(h0, .inr (8, [.ref q_1, .int 0])), (q_1, .inl (cy 1, 600, .inl (fun _ => 0)))] H := hP
  have hD : va_D A [(h0, .inr (8, [.ref q_1, .int 0])), (q_1, .inl (cy 1, 600, .inl (fun _ => 0)))] := hD
  have hP9 := hP.sub (ws' := [(h0, .inr (8, [.ref q_1, .int 0])), (q_1, .inl (cy 1, 600, .inl (fun _ => 0)))]) [0, 1] rfl
  have hD9 := hD.sub (ws' := [(h0, .inr (8, [.ref q_1, .int 0])), (q_1, .inl (cy 1, 600, .inl (fun _ => 0)))]) [0, 1] (by decide) rfl
  exact W.vret hx hb hr (fun t ht hW => ⟨⟨(), rfl, trivial, q_1, by rw [ht]; exact hP9, hD9⟩, hS.F ht⟩) hS.2.2 dX8_init_13
set_option maxHeartbeats 4000000 in
set_option maxRecDepth 100000 in
theorem c_X6_init (l : Launch) (D : va_G) (cy : Nat → ClassId) (h0 : Nat) (sz : Nat)  : Met l yX6_init wsX6_init ({ frames := 1, cells := 7, slots := 42, locals := 12 } : Room) (va_Pc [.ref h0] (PW D cy [(h0, .inr (6, [.int 0, .int 0, .int 0, .int 0, .int 0, .null, .int 0, .null, .null, .null, .int 0, .null, .null, .null, .int 0]))] sz)) (va_Qv (fun _ : Unit => True) (fun _ t => ∃ (q_1 : Nat) (q_2 : Nat) (q_3 : Nat) (q_4 : Nat) (q_5 : Nat) (q_6 : Nat) (q_7 : Nat), va_P D vwCl [(h0, .inr (6, [.int 0, .int 0, .int 0, .int 0, .int 0, .ref q_1, .int 0, .ref q_2, .ref q_3, .ref q_4, .int 0, .ref q_5, .ref q_6, .ref q_7, .int 0])), (q_1, .inl (cy 0, 12, .inl (fun _ => 0))), (q_2, .inl (cy 0, 4, .inl (fun _ => 0))), (q_3, .inl (cy 0, 4, .inl (fun _ => 0))), (q_4, .inl (cy 0, 4, .inl (fun _ => 0))), (q_5, .inl (cy 0, 6, .inl (fun _ => 0))), (q_6, .inl (cy 0, 6, .inl (fun _ => 0))), (q_7, .inl (cy 0, 6, .inl (fun _ => 0)))] t.heap ∧ va_D (va_A [(h0, .inr (6, [.int 0, .int 0, .int 0, .int 0, .int 0, .null, .int 0, .null, .null, .null, .int 0, .null, .null, .null, .int 0]))] sz) [(h0, .inr (6, [.int 0, .int 0, .int 0, .int 0, .int 0, .ref q_1, .int 0, .ref q_2, .ref q_3, .ref q_4, .int 0, .ref q_5, .ref q_6, .ref q_7, .int 0])), (q_1, .inl (cy 0, 12, .inl (fun _ => 0))), (q_2, .inl (cy 0, 4, .inl (fun _ => 0))), (q_3, .inl (cy 0, 4, .inl (fun _ => 0))), (q_4, .inl (cy 0, 4, .inl (fun _ => 0))), (q_5, .inl (cy 0, 6, .inl (fun _ => 0))), (q_6, .inl (cy 0, 6, .inl (fun _ => 0))), (q_7, .inl (cy 0, 6, .inl (fun _ => 0)))]) (va_A [(h0, .inr (6, [.int 0, .int 0, .int 0, .int 0, .int 0, .null, .int 0, .null, .null, .null, .int 0, .null, .null, .null, .int 0]))] sz)) 7 42 (va_A [(h0, .inr (6, [.int 0, .int 0, .int 0, .int 0, .int 0, .null, .int 0, .null, .null, .null, .int 0, .null, .null, .null, .int 0]))] sz) := by
  refine Met.ofW (cc := cX6_init) (maxL := 1) (ret := none) (by decide) rfl ?_
  intro p e s m args below meth c s₁ B hml hv
  obtain ⟨rfl, hsz, hP, hKW, hD0⟩ := hv
  have hK := hKW.1
  have hx := B.exec
  have hb := B.bytes
  have hr := B.returns
  have hts := atoms_spec (ws := wsX6_init) B.pre
  have hown : s.vm.findClass RX6 = some m.cls := findClass_of_methodNamed B.named
  have hlocks := B.notSynchronized
  have hin : meth.name = "<init>" := (name_of_methodNamed B.named B.method).1
  have in_6 : ∀ w ∈ u_ws RX6 TX6 15, w ∈ wsX6_init := by decide +kernel
  have hy_0 := hts (.methodLink RX6 3 objectInit) (by decide +kernel)
  have hy_1 := hts (.instanceMethod objectInit) (by decide +kernel)
  have hy_2 := hts (.code objectInit ⟨#[0xb1]⟩ 1 none) (by decide +kernel)
  have hy_3 := hts (.arrayClass .int) (by decide +kernel)
  have fl_9 := hts (.fieldLink RX6 9 "ShoalClaims$Sea" "laws" "[I") (by decide +kernel)
  have fl_15 := hts (.fieldLink RX6 15 "ShoalClaims$Sea" "shoalCell" "[I") (by decide +kernel)
  have fl_18 := hts (.fieldLink RX6 18 "ShoalClaims$Sea" "shoalFish" "[I") (by decide +kernel)
  have fl_21 := hts (.fieldLink RX6 21 "ShoalClaims$Sea" "shoalDrift" "[I") (by decide +kernel)
  have fl_24 := hts (.fieldLink RX6 24 "ShoalClaims$Sea" "boatCell" "[I") (by decide +kernel)
  have fl_27 := hts (.fieldLink RX6 27 "ShoalClaims$Sea" "boatVoice" "[I") (by decide +kernel)
  have fl_30 := hts (.fieldLink RX6 30 "ShoalClaims$Sea" "boatCoast" "[I") (by decide +kernel)
  subst hsz
  have hD := hD0.self (sz := s.heap.size)
  generalize hAe : va_A [(h0, .inr (6, [.int 0, .int 0, .int 0, .int 0, .int 0, .null, .int 0, .null, .null, .null, .int 0, .null, .null, .null, .int 0]))] s.heap.size = A at hD ⊢
  have hA : ∀ q : Nat, s.heap.size ≤ q → A q := fun q h => by rw [← hAe]; exact Or.inr h
  have hS : va_S A s.heap s.heap [] := va_S.rf
  have hP : va_P D vwCl [(h0, .inr (6, [.int 0, .int 0, .int 0, .int 0, .int 0, .null, .int 0, .null, .null, .null, .int 0, .null, .null, .null, .int 0]))] s.heap := hP
  have hl := lv_entry ([.ref h0]) (n := 1) (Nat.le_of_ble_eq_true rfl)
  rw [lg_entry_eq]
  generalize (lg_sl ([.ref h0]) ++ List.replicate (1 - (lg_sl ([.ref h0])).length) Slot.unset).toArray = ls at hl ⊢
  have hl : lv_has ls 1 [(0, .ref h0)] := hl
  refine lv_aload_n hx hb dX6_init_0 rfl (lv_at hl 0 rfl) ?_
  refine W.objInit hx hb hown hy_0 hy_1 hy_2 rfl (by rw [hml]; exact hl.1) rfl dX6_init_1 (Nat.le_of_ble_eq_true rfl) (Nat.le_of_ble_eq_true rfl) ?_
  refine W.eq (g2 := F0 m 4 ls []) rfl ?_
  refine lv_aload_n hx hb dX6_init_4 rfl (lv_at hl 0 rfl) ?_
  refine lv_bipush (v := 12) hx hb dX6_init_5 (by decide +kernel) ?_
  refine nw_a (atype := .int) (ty := .int) (cI := cy 0) (n := 12) hx hb hy_3 rfl hK hP hD hS hA 0 rfl rfl 12 (by decide +kernel) (by decide +kernel) (by decide +kernel) (by decide +kernel) (by decide +kernel) dX6_init_7 (fun q_1 H hP hD hS => ?_)
  have hP : va_P D vwCl [(h0, .inr (6, [.int 0, .int 0, .int 0, .int 0, .int 0, .null, .int 0, .null, .null, .null, .int 0, .null, .null, .null, .int 0])), (q_1, .inl (cy 0, 12, .inl (fun _ => 0)))] H := hP
  have hD : va_D A [(h0, .inr (6, [.int 0, .int 0, .int 0, .int 0, .int 0, .null, .int 0, .null, .null, .null, .int 0, .null, .null, .null, .int 0])), (q_1, .inl (cy 0, 12, .inl (fun _ => 0)))] := hD
  refine W.widen (k := 1) (n := 12) (by decide +kernel) (by decide +kernel) ?_
  refine va_putF (D := D) (ci := 6) (v := .ref q_1) (ty := .array .int) (C := RX6) (T := TX6) (N := 15) hx hb hts in_6 tyX6 tyX6_ok nmX6 hown hK hP hD hS 0 rfl rfl 5 (by decide) fl_9 (fun _ h9 => h9) rfl hin rfl (by decide +kernel) rfl rfl (Nat.le_of_ble_eq_true rfl) dX6_init_9 (fun H locs hP hD hS => ?_)
  have hP : va_P D vwCl [(h0, .inr (6, [.int 0, .int 0, .int 0, .int 0, .int 0, .ref q_1, .int 0, .null, .null, .null, .int 0, .null, .null, .null, .int 0])), (q_1, .inl (cy 0, 12, .inl (fun _ => 0)))] H := hP
  have hD : va_D A [(h0, .inr (6, [.int 0, .int 0, .int 0, .int 0, .int 0, .ref q_1, .int 0, .null, .null, .null, .int 0, .null, .null, .null, .int 0])), (q_1, .inl (cy 0, 12, .inl (fun _ => 0)))] := hD
  refine lv_aload_n hx hb dX6_init_12 rfl (lv_at hl 0 rfl) ?_
  refine lv_iconst (v := 4) hx hb dX6_init_13 (by decide +kernel) ?_
  refine nw_a (atype := .int) (ty := .int) (cI := cy 0) (n := 4) hx hb hy_3 rfl hK hP hD hS hA 0 rfl rfl 4 (by decide +kernel) (by decide +kernel) (by decide +kernel) (by decide +kernel) (by decide +kernel) dX6_init_14 (fun q_2 H hP hD hS => ?_)
  have hP : va_P D vwCl [(h0, .inr (6, [.int 0, .int 0, .int 0, .int 0, .int 0, .ref q_1, .int 0, .null, .null, .null, .int 0, .null, .null, .null, .int 0])), (q_1, .inl (cy 0, 12, .inl (fun _ => 0))), (q_2, .inl (cy 0, 4, .inl (fun _ => 0)))] H := hP
  have hD : va_D A [(h0, .inr (6, [.int 0, .int 0, .int 0, .int 0, .int 0, .ref q_1, .int 0, .null, .null, .null, .int 0, .null, .null, .null, .int 0])), (q_1, .inl (cy 0, 12, .inl (fun _ => 0))), (q_2, .inl (cy 0, 4, .inl (fun _ => 0)))] := hD
  refine W.widen (k := 2) (n := 16) (by decide +kernel) (by decide +kernel) ?_
  refine va_putF (D := D) (ci := 6) (v := .ref q_2) (ty := .array .int) (C := RX6) (T := TX6) (N := 15) hx hb hts in_6 tyX6 tyX6_ok nmX6 hown hK hP hD hS 0 rfl rfl 7 (by decide) fl_15 (fun _ h9 => h9) rfl hin rfl (by decide +kernel) rfl rfl (Nat.le_of_ble_eq_true rfl) dX6_init_16 (fun H locs hP hD hS => ?_)
  have hP : va_P D vwCl [(h0, .inr (6, [.int 0, .int 0, .int 0, .int 0, .int 0, .ref q_1, .int 0, .ref q_2, .null, .null, .int 0, .null, .null, .null, .int 0])), (q_1, .inl (cy 0, 12, .inl (fun _ => 0))), (q_2, .inl (cy 0, 4, .inl (fun _ => 0)))] H := hP
  have hD : va_D A [(h0, .inr (6, [.int 0, .int 0, .int 0, .int 0, .int 0, .ref q_1, .int 0, .ref q_2, .null, .null, .int 0, .null, .null, .null, .int 0])), (q_1, .inl (cy 0, 12, .inl (fun _ => 0))), (q_2, .inl (cy 0, 4, .inl (fun _ => 0)))] := hD
  refine lv_aload_n hx hb dX6_init_19 rfl (lv_at hl 0 rfl) ?_
  refine lv_iconst (v := 4) hx hb dX6_init_20 (by decide +kernel) ?_
  refine nw_a (atype := .int) (ty := .int) (cI := cy 0) (n := 4) hx hb hy_3 rfl hK hP hD hS hA 0 rfl rfl 4 (by decide +kernel) (by decide +kernel) (by decide +kernel) (by decide +kernel) (by decide +kernel) dX6_init_21 (fun q_3 H hP hD hS => ?_)
  have hP : va_P D vwCl [(h0, .inr (6, [.int 0, .int 0, .int 0, .int 0, .int 0, .ref q_1, .int 0, .ref q_2, .null, .null, .int 0, .null, .null, .null, .int 0])), (q_1, .inl (cy 0, 12, .inl (fun _ => 0))), (q_2, .inl (cy 0, 4, .inl (fun _ => 0))), (q_3, .inl (cy 0, 4, .inl (fun _ => 0)))] H := hP
  have hD : va_D A [(h0, .inr (6, [.int 0, .int 0, .int 0, .int 0, .int 0, .ref q_1, .int 0, .ref q_2, .null, .null, .int 0, .null, .null, .null, .int 0])), (q_1, .inl (cy 0, 12, .inl (fun _ => 0))), (q_2, .inl (cy 0, 4, .inl (fun _ => 0))), (q_3, .inl (cy 0, 4, .inl (fun _ => 0)))] := hD
  refine W.widen (k := 3) (n := 20) (by decide +kernel) (by decide +kernel) ?_
  refine va_putF (D := D) (ci := 6) (v := .ref q_3) (ty := .array .int) (C := RX6) (T := TX6) (N := 15) hx hb hts in_6 tyX6 tyX6_ok nmX6 hown hK hP hD hS 0 rfl rfl 8 (by decide) fl_18 (fun _ h9 => h9) rfl hin rfl (by decide +kernel) rfl rfl (Nat.le_of_ble_eq_true rfl) dX6_init_23 (fun H locs hP hD hS => ?_)
  have hP : va_P D vwCl [(h0, .inr (6, [.int 0, .int 0, .int 0, .int 0, .int 0, .ref q_1, .int 0, .ref q_2, .ref q_3, .null, .int 0, .null, .null, .null, .int 0])), (q_1, .inl (cy 0, 12, .inl (fun _ => 0))), (q_2, .inl (cy 0, 4, .inl (fun _ => 0))), (q_3, .inl (cy 0, 4, .inl (fun _ => 0)))] H := hP
  have hD : va_D A [(h0, .inr (6, [.int 0, .int 0, .int 0, .int 0, .int 0, .ref q_1, .int 0, .ref q_2, .ref q_3, .null, .int 0, .null, .null, .null, .int 0])), (q_1, .inl (cy 0, 12, .inl (fun _ => 0))), (q_2, .inl (cy 0, 4, .inl (fun _ => 0))), (q_3, .inl (cy 0, 4, .inl (fun _ => 0)))] := hD
  refine lv_aload_n hx hb dX6_init_26 rfl (lv_at hl 0 rfl) ?_
  refine lv_iconst (v := 4) hx hb dX6_init_27 (by decide +kernel) ?_
  refine nw_a (atype := .int) (ty := .int) (cI := cy 0) (n := 4) hx hb hy_3 rfl hK hP hD hS hA 0 rfl rfl 4 (by decide +kernel) (by decide +kernel) (by decide +kernel) (by decide +kernel) (by decide +kernel) dX6_init_28 (fun q_4 H hP hD hS => ?_)
  have hP : va_P D vwCl [(h0, .inr (6, [.int 0, .int 0, .int 0, .int 0, .int 0, .ref q_1, .int 0, .ref q_2, .ref q_3, .null, .int 0, .null, .null, .null, .int 0])), (q_1, .inl (cy 0, 12, .inl (fun _ => 0))), (q_2, .inl (cy 0, 4, .inl (fun _ => 0))), (q_3, .inl (cy 0, 4, .inl (fun _ => 0))), (q_4, .inl (cy 0, 4, .inl (fun _ => 0)))] H := hP
  have hD : va_D A [(h0, .inr (6, [.int 0, .int 0, .int 0, .int 0, .int 0, .ref q_1, .int 0, .ref q_2, .ref q_3, .null, .int 0, .null, .null, .null, .int 0])), (q_1, .inl (cy 0, 12, .inl (fun _ => 0))), (q_2, .inl (cy 0, 4, .inl (fun _ => 0))), (q_3, .inl (cy 0, 4, .inl (fun _ => 0))), (q_4, .inl (cy 0, 4, .inl (fun _ => 0)))] := hD
  refine W.widen (k := 4) (n := 24) (by decide +kernel) (by decide +kernel) ?_
  refine va_putF (D := D) (ci := 6) (v := .ref q_4) (ty := .array .int) (C := RX6) (T := TX6) (N := 15) hx hb hts in_6 tyX6 tyX6_ok nmX6 hown hK hP hD hS 0 rfl rfl 9 (by decide) fl_21 (fun _ h9 => h9) rfl hin rfl (by decide +kernel) rfl rfl (Nat.le_of_ble_eq_true rfl) dX6_init_30 (fun H locs hP hD hS => ?_)
  have hP : va_P D vwCl [(h0, .inr (6, [.int 0, .int 0, .int 0, .int 0, .int 0, .ref q_1, .int 0, .ref q_2, .ref q_3, .ref q_4, .int 0, .null, .null, .null, .int 0])), (q_1, .inl (cy 0, 12, .inl (fun _ => 0))), (q_2, .inl (cy 0, 4, .inl (fun _ => 0))), (q_3, .inl (cy 0, 4, .inl (fun _ => 0))), (q_4, .inl (cy 0, 4, .inl (fun _ => 0)))] H := hP
  have hD : va_D A [(h0, .inr (6, [.int 0, .int 0, .int 0, .int 0, .int 0, .ref q_1, .int 0, .ref q_2, .ref q_3, .ref q_4, .int 0, .null, .null, .null, .int 0])), (q_1, .inl (cy 0, 12, .inl (fun _ => 0))), (q_2, .inl (cy 0, 4, .inl (fun _ => 0))), (q_3, .inl (cy 0, 4, .inl (fun _ => 0))), (q_4, .inl (cy 0, 4, .inl (fun _ => 0)))] := hD
  refine lv_aload_n hx hb dX6_init_33 rfl (lv_at hl 0 rfl) ?_
  refine lv_bipush (v := 6) hx hb dX6_init_34 (by decide +kernel) ?_
  refine nw_a (atype := .int) (ty := .int) (cI := cy 0) (n := 6) hx hb hy_3 rfl hK hP hD hS hA 0 rfl rfl 6 (by decide +kernel) (by decide +kernel) (by decide +kernel) (by decide +kernel) (by decide +kernel) dX6_init_36 (fun q_5 H hP hD hS => ?_)
  have hP : va_P D vwCl [(h0, .inr (6, [.int 0, .int 0, .int 0, .int 0, .int 0, .ref q_1, .int 0, .ref q_2, .ref q_3, .ref q_4, .int 0, .null, .null, .null, .int 0])), (q_1, .inl (cy 0, 12, .inl (fun _ => 0))), (q_2, .inl (cy 0, 4, .inl (fun _ => 0))), (q_3, .inl (cy 0, 4, .inl (fun _ => 0))), (q_4, .inl (cy 0, 4, .inl (fun _ => 0))), (q_5, .inl (cy 0, 6, .inl (fun _ => 0)))] H := hP
  have hD : va_D A [(h0, .inr (6, [.int 0, .int 0, .int 0, .int 0, .int 0, .ref q_1, .int 0, .ref q_2, .ref q_3, .ref q_4, .int 0, .null, .null, .null, .int 0])), (q_1, .inl (cy 0, 12, .inl (fun _ => 0))), (q_2, .inl (cy 0, 4, .inl (fun _ => 0))), (q_3, .inl (cy 0, 4, .inl (fun _ => 0))), (q_4, .inl (cy 0, 4, .inl (fun _ => 0))), (q_5, .inl (cy 0, 6, .inl (fun _ => 0)))] := hD
  refine W.widen (k := 5) (n := 30) (by decide +kernel) (by decide +kernel) ?_
  refine va_putF (D := D) (ci := 6) (v := .ref q_5) (ty := .array .int) (C := RX6) (T := TX6) (N := 15) hx hb hts in_6 tyX6 tyX6_ok nmX6 hown hK hP hD hS 0 rfl rfl 11 (by decide) fl_24 (fun _ h9 => h9) rfl hin rfl (by decide +kernel) rfl rfl (Nat.le_of_ble_eq_true rfl) dX6_init_38 (fun H locs hP hD hS => ?_)
  have hP : va_P D vwCl [(h0, .inr (6, [.int 0, .int 0, .int 0, .int 0, .int 0, .ref q_1, .int 0, .ref q_2, .ref q_3, .ref q_4, .int 0, .ref q_5, .null, .null, .int 0])), (q_1, .inl (cy 0, 12, .inl (fun _ => 0))), (q_2, .inl (cy 0, 4, .inl (fun _ => 0))), (q_3, .inl (cy 0, 4, .inl (fun _ => 0))), (q_4, .inl (cy 0, 4, .inl (fun _ => 0))), (q_5, .inl (cy 0, 6, .inl (fun _ => 0)))] H := hP
  have hD : va_D A [(h0, .inr (6, [.int 0, .int 0, .int 0, .int 0, .int 0, .ref q_1, .int 0, .ref q_2, .ref q_3, .ref q_4, .int 0, .ref q_5, .null, .null, .int 0])), (q_1, .inl (cy 0, 12, .inl (fun _ => 0))), (q_2, .inl (cy 0, 4, .inl (fun _ => 0))), (q_3, .inl (cy 0, 4, .inl (fun _ => 0))), (q_4, .inl (cy 0, 4, .inl (fun _ => 0))), (q_5, .inl (cy 0, 6, .inl (fun _ => 0)))] := hD
  refine lv_aload_n hx hb dX6_init_41 rfl (lv_at hl 0 rfl) ?_
  refine lv_bipush (v := 6) hx hb dX6_init_42 (by decide +kernel) ?_
  refine nw_a (atype := .int) (ty := .int) (cI := cy 0) (n := 6) hx hb hy_3 rfl hK hP hD hS hA 0 rfl rfl 6 (by decide +kernel) (by decide +kernel) (by decide +kernel) (by decide +kernel) (by decide +kernel) dX6_init_44 (fun q_6 H hP hD hS => ?_)
  have hP : va_P D vwCl [(h0, .inr (6, [.int 0, .int 0, .int 0, .int 0, .int 0, .ref q_1, .int 0, .ref q_2, .ref q_3, .ref q_4, .int 0, .ref q_5, .null, .null, .int 0])), (q_1, .inl (cy 0, 12, .inl (fun _ => 0))), (q_2, .inl (cy 0, 4, .inl (fun _ => 0))), (q_3, .inl (cy 0, 4, .inl (fun _ => 0))), (q_4, .inl (cy 0, 4, .inl (fun _ => 0))), (q_5, .inl (cy 0, 6, .inl (fun _ => 0))), (q_6, .inl (cy 0, 6, .inl (fun _ => 0)))] H := hP
  have hD : va_D A [(h0, .inr (6, [.int 0, .int 0, .int 0, .int 0, .int 0, .ref q_1, .int 0, .ref q_2, .ref q_3, .ref q_4, .int 0, .ref q_5, .null, .null, .int 0])), (q_1, .inl (cy 0, 12, .inl (fun _ => 0))), (q_2, .inl (cy 0, 4, .inl (fun _ => 0))), (q_3, .inl (cy 0, 4, .inl (fun _ => 0))), (q_4, .inl (cy 0, 4, .inl (fun _ => 0))), (q_5, .inl (cy 0, 6, .inl (fun _ => 0))), (q_6, .inl (cy 0, 6, .inl (fun _ => 0)))] := hD
  refine W.widen (k := 6) (n := 36) (by decide +kernel) (by decide +kernel) ?_
  refine va_putF (D := D) (ci := 6) (v := .ref q_6) (ty := .array .int) (C := RX6) (T := TX6) (N := 15) hx hb hts in_6 tyX6 tyX6_ok nmX6 hown hK hP hD hS 0 rfl rfl 12 (by decide) fl_27 (fun _ h9 => h9) rfl hin rfl (by decide +kernel) rfl rfl (Nat.le_of_ble_eq_true rfl) dX6_init_46 (fun H locs hP hD hS => ?_)
  have hP : va_P D vwCl [(h0, .inr (6, [.int 0, .int 0, .int 0, .int 0, .int 0, .ref q_1, .int 0, .ref q_2, .ref q_3, .ref q_4, .int 0, .ref q_5, .ref q_6, .null, .int 0])), (q_1, .inl (cy 0, 12, .inl (fun _ => 0))), (q_2, .inl (cy 0, 4, .inl (fun _ => 0))), (q_3, .inl (cy 0, 4, .inl (fun _ => 0))), (q_4, .inl (cy 0, 4, .inl (fun _ => 0))), (q_5, .inl (cy 0, 6, .inl (fun _ => 0))), (q_6, .inl (cy 0, 6, .inl (fun _ => 0)))] H := hP
  have hD : va_D A [(h0, .inr (6, [.int 0, .int 0, .int 0, .int 0, .int 0, .ref q_1, .int 0, .ref q_2, .ref q_3, .ref q_4, .int 0, .ref q_5, .ref q_6, .null, .int 0])), (q_1, .inl (cy 0, 12, .inl (fun _ => 0))), (q_2, .inl (cy 0, 4, .inl (fun _ => 0))), (q_3, .inl (cy 0, 4, .inl (fun _ => 0))), (q_4, .inl (cy 0, 4, .inl (fun _ => 0))), (q_5, .inl (cy 0, 6, .inl (fun _ => 0))), (q_6, .inl (cy 0, 6, .inl (fun _ => 0)))] := hD
  refine lv_aload_n hx hb dX6_init_49 rfl (lv_at hl 0 rfl) ?_
  refine lv_bipush (v := 6) hx hb dX6_init_50 (by decide +kernel) ?_
  refine nw_a (atype := .int) (ty := .int) (cI := cy 0) (n := 6) hx hb hy_3 rfl hK hP hD hS hA 0 rfl rfl 6 (by decide +kernel) (by decide +kernel) (by decide +kernel) (by decide +kernel) (by decide +kernel) dX6_init_52 (fun q_7 H hP hD hS => ?_)
  have hP : va_P D vwCl [(h0, .inr (6, [.int 0, .int 0, .int 0, .int 0, .int 0, .ref q_1, .int 0, .ref q_2, .ref q_3, .ref q_4, .int 0, .ref q_5, .ref q_6, .null, .int 0])), (q_1, .inl (cy 0, 12, .inl (fun _ => 0))), (q_2, .inl (cy 0, 4, .inl (fun _ => 0))), (q_3, .inl (cy 0, 4, .inl (fun _ => 0))), (q_4, .inl (cy 0, 4, .inl (fun _ => 0))), (q_5, .inl (cy 0, 6, .inl (fun _ => 0))), (q_6, .inl (cy 0, 6, .inl (fun _ => 0))), (q_7, .inl (cy 0, 6, .inl (fun _ => 0)))] H := hP
  have hD : va_D A [(h0, .inr (6, [.int 0, .int 0, .int 0, .int 0, .int 0, .ref q_1, .int 0, .ref q_2, .ref q_3, .ref q_4, .int 0, .ref q_5, .ref q_6, .null, .int 0])), (q_1, .inl (cy 0, 12, .inl (fun _ => 0))), (q_2, .inl (cy 0, 4, .inl (fun _ => 0))), (q_3, .inl (cy 0, 4, .inl (fun _ => 0))), (q_4, .inl (cy 0, 4, .inl (fun _ => 0))), (q_5, .inl (cy 0, 6, .inl (fun _ => 0))), (q_6, .inl (cy 0, 6, .inl (fun _ => 0))), (q_7, .inl (cy 0, 6, .inl (fun _ => 0)))] := hD
  refine W.widen (k := 7) (n := 42) (by decide +kernel) (by decide +kernel) ?_
  refine va_putF (D := D) (ci := 6) (v := .ref q_7) (ty := .array .int) (C := RX6) (T := TX6) (N := 15) hx hb hts in_6 tyX6 tyX6_ok nmX6 hown hK hP hD hS 0 rfl rfl 13 (by decide) fl_30 (fun _ h9 => h9) rfl hin rfl (by decide +kernel) rfl rfl (Nat.le_of_ble_eq_true rfl) dX6_init_54 (fun H locs hP hD hS => ?_)
  have hP : va_P D vwCl [(h0, .inr (6, [.int 0, .int 0, .int 0, .int 0, .int 0, .ref q_1, .int 0, .ref q_2, .ref q_3, .ref q_4, .int 0, .ref q_5, .ref q_6, .ref q_7, .int 0])), (q_1, .inl (cy 0, 12, .inl (fun _ => 0))), (q_2, .inl (cy 0, 4, .inl (fun _ => 0))), (q_3, .inl (cy 0, 4, .inl (fun _ => 0))), (q_4, .inl (cy 0, 4, .inl (fun _ => 0))), (q_5, .inl (cy 0, 6, .inl (fun _ => 0))), (q_6, .inl (cy 0, 6, .inl (fun _ => 0))), (q_7, .inl (cy 0, 6, .inl (fun _ => 0)))] H := hP
  have hD : va_D A [(h0, .inr (6, [.int 0, .int 0, .int 0, .int 0, .int 0, .ref q_1, .int 0, .ref q_2, .ref q_3, .ref q_4, .int 0, .ref q_5, .ref q_6, .ref q_7, .int 0])), (q_1, .inl (cy 0, 12, .inl (fun _ => 0))), (q_2, .inl (cy 0, 4, .inl (fun _ => 0))), (q_3, .inl (cy 0, 4, .inl (fun _ => 0))), (q_4, .inl (cy 0, 4, .inl (fun _ => 0))), (q_5, .inl (cy 0, 6, .inl (fun _ => 0))), (q_6, .inl (cy 0, 6, .inl (fun _ => 0))), (q_7, .inl (cy 0, 6, .inl (fun _ => 0)))] := hD
  have hP9 := hP.sub (ws' := [(h0, .inr (6, [.int 0, .int 0, .int 0, .int 0, .int 0, .ref q_1, .int 0, .ref q_2, .ref q_3, .ref q_4, .int 0, .ref q_5, .ref q_6, .ref q_7, .int 0])), (q_1, .inl (cy 0, 12, .inl (fun _ => 0))), (q_2, .inl (cy 0, 4, .inl (fun _ => 0))), (q_3, .inl (cy 0, 4, .inl (fun _ => 0))), (q_4, .inl (cy 0, 4, .inl (fun _ => 0))), (q_5, .inl (cy 0, 6, .inl (fun _ => 0))), (q_6, .inl (cy 0, 6, .inl (fun _ => 0))), (q_7, .inl (cy 0, 6, .inl (fun _ => 0)))]) [0, 1, 2, 3, 4, 5, 6, 7] rfl
  have hD9 := hD.sub (ws' := [(h0, .inr (6, [.int 0, .int 0, .int 0, .int 0, .int 0, .ref q_1, .int 0, .ref q_2, .ref q_3, .ref q_4, .int 0, .ref q_5, .ref q_6, .ref q_7, .int 0])), (q_1, .inl (cy 0, 12, .inl (fun _ => 0))), (q_2, .inl (cy 0, 4, .inl (fun _ => 0))), (q_3, .inl (cy 0, 4, .inl (fun _ => 0))), (q_4, .inl (cy 0, 4, .inl (fun _ => 0))), (q_5, .inl (cy 0, 6, .inl (fun _ => 0))), (q_6, .inl (cy 0, 6, .inl (fun _ => 0))), (q_7, .inl (cy 0, 6, .inl (fun _ => 0)))]) [0, 1, 2, 3, 4, 5, 6, 7] (by decide) rfl
  exact W.vret hx hb hr (fun t ht hW => ⟨⟨(), rfl, trivial, q_1, q_2, q_3, q_4, q_5, q_6, q_7, by rw [ht]; exact hP9, hD9⟩, hS.F ht⟩) hS.2.2 dX6_init_57
set_option maxHeartbeats 4000000 in
set_option maxRecDepth 100000 in
theorem c_X1_init (l : Launch) (D : va_G) (cy : Nat → ClassId) (h0 : Nat) (sz : Nat)  : Met l yX1_init wsX1_init ({ frames := 1, cells := 2, slots := 120, locals := 12 } : Room) (va_Pc [.ref h0] (PW D cy [(h0, .inr (1, [.int 0, .null, .null]))] sz)) (va_Qv (fun _ : Unit => True) (fun _ t => ∃ (q_1 : Nat) (q_2 : Nat), va_P D vwCl [(h0, .inr (1, [.int 0, .ref q_1, .ref q_2])), (q_1, .inl (cy 0, 30, .inl (fun _ => 0))), (q_2, .inl (cy 0, 90, .inl (fun _ => 0)))] t.heap ∧ va_D (va_A [(h0, .inr (1, [.int 0, .null, .null]))] sz) [(h0, .inr (1, [.int 0, .ref q_1, .ref q_2])), (q_1, .inl (cy 0, 30, .inl (fun _ => 0))), (q_2, .inl (cy 0, 90, .inl (fun _ => 0)))]) (va_A [(h0, .inr (1, [.int 0, .null, .null]))] sz)) 2 120 (va_A [(h0, .inr (1, [.int 0, .null, .null]))] sz) := by
  refine Met.ofW (cc := cX1_init) (maxL := 1) (ret := none) (by decide) rfl ?_
  intro p e s m args below meth c s₁ B hml hv
  obtain ⟨rfl, hsz, hP, hKW, hD0⟩ := hv
  have hK := hKW.1
  have hx := B.exec
  have hb := B.bytes
  have hr := B.returns
  have hts := atoms_spec (ws := wsX1_init) B.pre
  have hown : s.vm.findClass RX1 = some m.cls := findClass_of_methodNamed B.named
  have hlocks := B.notSynchronized
  have hin : meth.name = "<init>" := (name_of_methodNamed B.named B.method).1
  have in_1 : ∀ w ∈ u_ws RX1 TX1 3, w ∈ wsX1_init := by decide +kernel
  have hy_0 := hts (.methodLink RX1 3 objectInit) (by decide +kernel)
  have hy_1 := hts (.instanceMethod objectInit) (by decide +kernel)
  have hy_2 := hts (.code objectInit ⟨#[0xb1]⟩ 1 none) (by decide +kernel)
  have hy_3 := hts (.arrayClass .int) (by decide +kernel)
  have fl_9 := hts (.fieldLink RX1 9 "ShoalClaims$Day" "kinds" "[I") (by decide +kernel)
  have fl_15 := hts (.fieldLink RX1 15 "ShoalClaims$Day" "numbers" "[I") (by decide +kernel)
  subst hsz
  have hD := hD0.self (sz := s.heap.size)
  generalize hAe : va_A [(h0, .inr (1, [.int 0, .null, .null]))] s.heap.size = A at hD ⊢
  have hA : ∀ q : Nat, s.heap.size ≤ q → A q := fun q h => by rw [← hAe]; exact Or.inr h
  have hS : va_S A s.heap s.heap [] := va_S.rf
  have hP : va_P D vwCl [(h0, .inr (1, [.int 0, .null, .null]))] s.heap := hP
  have hl := lv_entry ([.ref h0]) (n := 1) (Nat.le_of_ble_eq_true rfl)
  rw [lg_entry_eq]
  generalize (lg_sl ([.ref h0]) ++ List.replicate (1 - (lg_sl ([.ref h0])).length) Slot.unset).toArray = ls at hl ⊢
  have hl : lv_has ls 1 [(0, .ref h0)] := hl
  refine lv_aload_n hx hb dX1_init_0 rfl (lv_at hl 0 rfl) ?_
  refine W.objInit hx hb hown hy_0 hy_1 hy_2 rfl (by rw [hml]; exact hl.1) rfl dX1_init_1 (Nat.le_of_ble_eq_true rfl) (Nat.le_of_ble_eq_true rfl) ?_
  refine W.eq (g2 := F0 m 4 ls []) rfl ?_
  refine lv_aload_n hx hb dX1_init_4 rfl (lv_at hl 0 rfl) ?_
  refine lv_bipush (v := 30) hx hb dX1_init_5 (by decide +kernel) ?_
  refine nw_a (atype := .int) (ty := .int) (cI := cy 0) (n := 30) hx hb hy_3 rfl hK hP hD hS hA 0 rfl rfl 30 (by decide +kernel) (by decide +kernel) (by decide +kernel) (by decide +kernel) (by decide +kernel) dX1_init_7 (fun q_1 H hP hD hS => ?_)
  have hP : va_P D vwCl [(h0, .inr (1, [.int 0, .null, .null])), (q_1, .inl (cy 0, 30, .inl (fun _ => 0)))] H := hP
  have hD : va_D A [(h0, .inr (1, [.int 0, .null, .null])), (q_1, .inl (cy 0, 30, .inl (fun _ => 0)))] := hD
  refine W.widen (k := 1) (n := 30) (by decide +kernel) (by decide +kernel) ?_
  refine va_putF (D := D) (ci := 1) (v := .ref q_1) (ty := .array .int) (C := RX1) (T := TX1) (N := 3) hx hb hts in_1 tyX1 tyX1_ok nmX1 hown hK hP hD hS 0 rfl rfl 1 (by decide) fl_9 (fun _ h9 => h9) rfl hin rfl (by decide +kernel) rfl rfl (Nat.le_of_ble_eq_true rfl) dX1_init_9 (fun H locs hP hD hS => ?_)
  have hP : va_P D vwCl [(h0, .inr (1, [.int 0, .ref q_1, .null])), (q_1, .inl (cy 0, 30, .inl (fun _ => 0)))] H := hP
  have hD : va_D A [(h0, .inr (1, [.int 0, .ref q_1, .null])), (q_1, .inl (cy 0, 30, .inl (fun _ => 0)))] := hD
  refine lv_aload_n hx hb dX1_init_12 rfl (lv_at hl 0 rfl) ?_
  refine lv_bipush (v := 90) hx hb dX1_init_13 (by decide +kernel) ?_
  refine nw_a (atype := .int) (ty := .int) (cI := cy 0) (n := 90) hx hb hy_3 rfl hK hP hD hS hA 0 rfl rfl 90 (by decide +kernel) (by decide +kernel) (by decide +kernel) (by decide +kernel) (by decide +kernel) dX1_init_15 (fun q_2 H hP hD hS => ?_)
  have hP : va_P D vwCl [(h0, .inr (1, [.int 0, .ref q_1, .null])), (q_1, .inl (cy 0, 30, .inl (fun _ => 0))), (q_2, .inl (cy 0, 90, .inl (fun _ => 0)))] H := hP
  have hD : va_D A [(h0, .inr (1, [.int 0, .ref q_1, .null])), (q_1, .inl (cy 0, 30, .inl (fun _ => 0))), (q_2, .inl (cy 0, 90, .inl (fun _ => 0)))] := hD
  refine W.widen (k := 2) (n := 120) (by decide +kernel) (by decide +kernel) ?_
  refine va_putF (D := D) (ci := 1) (v := .ref q_2) (ty := .array .int) (C := RX1) (T := TX1) (N := 3) hx hb hts in_1 tyX1 tyX1_ok nmX1 hown hK hP hD hS 0 rfl rfl 2 (by decide) fl_15 (fun _ h9 => h9) rfl hin rfl (by decide +kernel) rfl rfl (Nat.le_of_ble_eq_true rfl) dX1_init_17 (fun H locs hP hD hS => ?_)
  have hP : va_P D vwCl [(h0, .inr (1, [.int 0, .ref q_1, .ref q_2])), (q_1, .inl (cy 0, 30, .inl (fun _ => 0))), (q_2, .inl (cy 0, 90, .inl (fun _ => 0)))] H := hP
  have hD : va_D A [(h0, .inr (1, [.int 0, .ref q_1, .ref q_2])), (q_1, .inl (cy 0, 30, .inl (fun _ => 0))), (q_2, .inl (cy 0, 90, .inl (fun _ => 0)))] := hD
  have hP9 := hP.sub (ws' := [(h0, .inr (1, [.int 0, .ref q_1, .ref q_2])), (q_1, .inl (cy 0, 30, .inl (fun _ => 0))), (q_2, .inl (cy 0, 90, .inl (fun _ => 0)))]) [0, 1, 2] rfl
  have hD9 := hD.sub (ws' := [(h0, .inr (1, [.int 0, .ref q_1, .ref q_2])), (q_1, .inl (cy 0, 30, .inl (fun _ => 0))), (q_2, .inl (cy 0, 90, .inl (fun _ => 0)))]) [0, 1, 2] (by decide) rfl
  exact W.vret hx hb hr (fun t ht hW => ⟨⟨(), rfl, trivial, q_1, q_2, by rw [ht]; exact hP9, hD9⟩, hS.F ht⟩) hS.2.2 dX1_init_20
set_option maxHeartbeats 4000000 in
set_option maxRecDepth 100000 in
theorem c_X2_init (l : Launch) (D : va_G) (cy : Nat → ClassId) (h0 : Nat) (sz : Nat)  : Met l yX2_init wsX2_init ({ frames := 1, cells := 4, slots := 50, locals := 12 } : Room) (va_Pc [.ref h0] (PW D cy [(h0, .inr (2, [.int 0, .null, .null, .int 0, .null, .null]))] sz)) (va_Qv (fun _ : Unit => True) (fun _ t => ∃ (q_1 : Nat) (q_2 : Nat) (q_3 : Nat) (q_4 : Nat), va_P D vwCl [(h0, .inr (2, [.int 0, .ref q_1, .ref q_2, .int 0, .ref q_3, .ref q_4])), (q_1, .inl (cy 0, 9, .inl (fun _ => 0))), (q_2, .inl (cy 0, 9, .inl (fun _ => 0))), (q_3, .inl (cy 0, 16, .inl (fun _ => 0))), (q_4, .inl (cy 0, 16, .inl (fun _ => 0)))] t.heap ∧ va_D (va_A [(h0, .inr (2, [.int 0, .null, .null, .int 0, .null, .null]))] sz) [(h0, .inr (2, [.int 0, .ref q_1, .ref q_2, .int 0, .ref q_3, .ref q_4])), (q_1, .inl (cy 0, 9, .inl (fun _ => 0))), (q_2, .inl (cy 0, 9, .inl (fun _ => 0))), (q_3, .inl (cy 0, 16, .inl (fun _ => 0))), (q_4, .inl (cy 0, 16, .inl (fun _ => 0)))]) (va_A [(h0, .inr (2, [.int 0, .null, .null, .int 0, .null, .null]))] sz)) 4 50 (va_A [(h0, .inr (2, [.int 0, .null, .null, .int 0, .null, .null]))] sz) := by
  refine Met.ofW (cc := cX2_init) (maxL := 1) (ret := none) (by decide) rfl ?_
  intro p e s m args below meth c s₁ B hml hv
  obtain ⟨rfl, hsz, hP, hKW, hD0⟩ := hv
  have hK := hKW.1
  have hx := B.exec
  have hb := B.bytes
  have hr := B.returns
  have hts := atoms_spec (ws := wsX2_init) B.pre
  have hown : s.vm.findClass RX2 = some m.cls := findClass_of_methodNamed B.named
  have hlocks := B.notSynchronized
  have hin : meth.name = "<init>" := (name_of_methodNamed B.named B.method).1
  have in_2 : ∀ w ∈ u_ws RX2 TX2 6, w ∈ wsX2_init := by decide +kernel
  have hy_0 := hts (.methodLink RX2 3 objectInit) (by decide +kernel)
  have hy_1 := hts (.instanceMethod objectInit) (by decide +kernel)
  have hy_2 := hts (.code objectInit ⟨#[0xb1]⟩ 1 none) (by decide +kernel)
  have hy_3 := hts (.arrayClass .int) (by decide +kernel)
  have fl_9 := hts (.fieldLink RX2 9 "ShoalClaims$Dispute" "from" "[I") (by decide +kernel)
  have fl_15 := hts (.fieldLink RX2 15 "ShoalClaims$Dispute" "to" "[I") (by decide +kernel)
  have fl_18 := hts (.fieldLink RX2 18 "ShoalClaims$Dispute" "first" "[I") (by decide +kernel)
  have fl_21 := hts (.fieldLink RX2 21 "ShoalClaims$Dispute" "second" "[I") (by decide +kernel)
  subst hsz
  have hD := hD0.self (sz := s.heap.size)
  generalize hAe : va_A [(h0, .inr (2, [.int 0, .null, .null, .int 0, .null, .null]))] s.heap.size = A at hD ⊢
  have hA : ∀ q : Nat, s.heap.size ≤ q → A q := fun q h => by rw [← hAe]; exact Or.inr h
  have hS : va_S A s.heap s.heap [] := va_S.rf
  have hP : va_P D vwCl [(h0, .inr (2, [.int 0, .null, .null, .int 0, .null, .null]))] s.heap := hP
  have hl := lv_entry ([.ref h0]) (n := 1) (Nat.le_of_ble_eq_true rfl)
  rw [lg_entry_eq]
  generalize (lg_sl ([.ref h0]) ++ List.replicate (1 - (lg_sl ([.ref h0])).length) Slot.unset).toArray = ls at hl ⊢
  have hl : lv_has ls 1 [(0, .ref h0)] := hl
  refine lv_aload_n hx hb dX2_init_0 rfl (lv_at hl 0 rfl) ?_
  refine W.objInit hx hb hown hy_0 hy_1 hy_2 rfl (by rw [hml]; exact hl.1) rfl dX2_init_1 (Nat.le_of_ble_eq_true rfl) (Nat.le_of_ble_eq_true rfl) ?_
  refine W.eq (g2 := F0 m 4 ls []) rfl ?_
  refine lv_aload_n hx hb dX2_init_4 rfl (lv_at hl 0 rfl) ?_
  refine lv_bipush (v := 9) hx hb dX2_init_5 (by decide +kernel) ?_
  refine nw_a (atype := .int) (ty := .int) (cI := cy 0) (n := 9) hx hb hy_3 rfl hK hP hD hS hA 0 rfl rfl 9 (by decide +kernel) (by decide +kernel) (by decide +kernel) (by decide +kernel) (by decide +kernel) dX2_init_7 (fun q_1 H hP hD hS => ?_)
  have hP : va_P D vwCl [(h0, .inr (2, [.int 0, .null, .null, .int 0, .null, .null])), (q_1, .inl (cy 0, 9, .inl (fun _ => 0)))] H := hP
  have hD : va_D A [(h0, .inr (2, [.int 0, .null, .null, .int 0, .null, .null])), (q_1, .inl (cy 0, 9, .inl (fun _ => 0)))] := hD
  refine W.widen (k := 1) (n := 9) (by decide +kernel) (by decide +kernel) ?_
  refine va_putF (D := D) (ci := 2) (v := .ref q_1) (ty := .array .int) (C := RX2) (T := TX2) (N := 6) hx hb hts in_2 tyX2 tyX2_ok nmX2 hown hK hP hD hS 0 rfl rfl 1 (by decide) fl_9 (fun _ h9 => h9) rfl hin rfl (by decide +kernel) rfl rfl (Nat.le_of_ble_eq_true rfl) dX2_init_9 (fun H locs hP hD hS => ?_)
  have hP : va_P D vwCl [(h0, .inr (2, [.int 0, .ref q_1, .null, .int 0, .null, .null])), (q_1, .inl (cy 0, 9, .inl (fun _ => 0)))] H := hP
  have hD : va_D A [(h0, .inr (2, [.int 0, .ref q_1, .null, .int 0, .null, .null])), (q_1, .inl (cy 0, 9, .inl (fun _ => 0)))] := hD
  refine lv_aload_n hx hb dX2_init_12 rfl (lv_at hl 0 rfl) ?_
  refine lv_bipush (v := 9) hx hb dX2_init_13 (by decide +kernel) ?_
  refine nw_a (atype := .int) (ty := .int) (cI := cy 0) (n := 9) hx hb hy_3 rfl hK hP hD hS hA 0 rfl rfl 9 (by decide +kernel) (by decide +kernel) (by decide +kernel) (by decide +kernel) (by decide +kernel) dX2_init_15 (fun q_2 H hP hD hS => ?_)
  have hP : va_P D vwCl [(h0, .inr (2, [.int 0, .ref q_1, .null, .int 0, .null, .null])), (q_1, .inl (cy 0, 9, .inl (fun _ => 0))), (q_2, .inl (cy 0, 9, .inl (fun _ => 0)))] H := hP
  have hD : va_D A [(h0, .inr (2, [.int 0, .ref q_1, .null, .int 0, .null, .null])), (q_1, .inl (cy 0, 9, .inl (fun _ => 0))), (q_2, .inl (cy 0, 9, .inl (fun _ => 0)))] := hD
  refine W.widen (k := 2) (n := 18) (by decide +kernel) (by decide +kernel) ?_
  refine va_putF (D := D) (ci := 2) (v := .ref q_2) (ty := .array .int) (C := RX2) (T := TX2) (N := 6) hx hb hts in_2 tyX2 tyX2_ok nmX2 hown hK hP hD hS 0 rfl rfl 2 (by decide) fl_15 (fun _ h9 => h9) rfl hin rfl (by decide +kernel) rfl rfl (Nat.le_of_ble_eq_true rfl) dX2_init_17 (fun H locs hP hD hS => ?_)
  have hP : va_P D vwCl [(h0, .inr (2, [.int 0, .ref q_1, .ref q_2, .int 0, .null, .null])), (q_1, .inl (cy 0, 9, .inl (fun _ => 0))), (q_2, .inl (cy 0, 9, .inl (fun _ => 0)))] H := hP
  have hD : va_D A [(h0, .inr (2, [.int 0, .ref q_1, .ref q_2, .int 0, .null, .null])), (q_1, .inl (cy 0, 9, .inl (fun _ => 0))), (q_2, .inl (cy 0, 9, .inl (fun _ => 0)))] := hD
  refine lv_aload_n hx hb dX2_init_20 rfl (lv_at hl 0 rfl) ?_
  refine lv_bipush (v := 16) hx hb dX2_init_21 (by decide +kernel) ?_
  refine nw_a (atype := .int) (ty := .int) (cI := cy 0) (n := 16) hx hb hy_3 rfl hK hP hD hS hA 0 rfl rfl 16 (by decide +kernel) (by decide +kernel) (by decide +kernel) (by decide +kernel) (by decide +kernel) dX2_init_23 (fun q_3 H hP hD hS => ?_)
  have hP : va_P D vwCl [(h0, .inr (2, [.int 0, .ref q_1, .ref q_2, .int 0, .null, .null])), (q_1, .inl (cy 0, 9, .inl (fun _ => 0))), (q_2, .inl (cy 0, 9, .inl (fun _ => 0))), (q_3, .inl (cy 0, 16, .inl (fun _ => 0)))] H := hP
  have hD : va_D A [(h0, .inr (2, [.int 0, .ref q_1, .ref q_2, .int 0, .null, .null])), (q_1, .inl (cy 0, 9, .inl (fun _ => 0))), (q_2, .inl (cy 0, 9, .inl (fun _ => 0))), (q_3, .inl (cy 0, 16, .inl (fun _ => 0)))] := hD
  refine W.widen (k := 3) (n := 34) (by decide +kernel) (by decide +kernel) ?_
  refine va_putF (D := D) (ci := 2) (v := .ref q_3) (ty := .array .int) (C := RX2) (T := TX2) (N := 6) hx hb hts in_2 tyX2 tyX2_ok nmX2 hown hK hP hD hS 0 rfl rfl 4 (by decide) fl_18 (fun _ h9 => h9) rfl hin rfl (by decide +kernel) rfl rfl (Nat.le_of_ble_eq_true rfl) dX2_init_25 (fun H locs hP hD hS => ?_)
  have hP : va_P D vwCl [(h0, .inr (2, [.int 0, .ref q_1, .ref q_2, .int 0, .ref q_3, .null])), (q_1, .inl (cy 0, 9, .inl (fun _ => 0))), (q_2, .inl (cy 0, 9, .inl (fun _ => 0))), (q_3, .inl (cy 0, 16, .inl (fun _ => 0)))] H := hP
  have hD : va_D A [(h0, .inr (2, [.int 0, .ref q_1, .ref q_2, .int 0, .ref q_3, .null])), (q_1, .inl (cy 0, 9, .inl (fun _ => 0))), (q_2, .inl (cy 0, 9, .inl (fun _ => 0))), (q_3, .inl (cy 0, 16, .inl (fun _ => 0)))] := hD
  refine lv_aload_n hx hb dX2_init_28 rfl (lv_at hl 0 rfl) ?_
  refine lv_bipush (v := 16) hx hb dX2_init_29 (by decide +kernel) ?_
  refine nw_a (atype := .int) (ty := .int) (cI := cy 0) (n := 16) hx hb hy_3 rfl hK hP hD hS hA 0 rfl rfl 16 (by decide +kernel) (by decide +kernel) (by decide +kernel) (by decide +kernel) (by decide +kernel) dX2_init_31 (fun q_4 H hP hD hS => ?_)
  have hP : va_P D vwCl [(h0, .inr (2, [.int 0, .ref q_1, .ref q_2, .int 0, .ref q_3, .null])), (q_1, .inl (cy 0, 9, .inl (fun _ => 0))), (q_2, .inl (cy 0, 9, .inl (fun _ => 0))), (q_3, .inl (cy 0, 16, .inl (fun _ => 0))), (q_4, .inl (cy 0, 16, .inl (fun _ => 0)))] H := hP
  have hD : va_D A [(h0, .inr (2, [.int 0, .ref q_1, .ref q_2, .int 0, .ref q_3, .null])), (q_1, .inl (cy 0, 9, .inl (fun _ => 0))), (q_2, .inl (cy 0, 9, .inl (fun _ => 0))), (q_3, .inl (cy 0, 16, .inl (fun _ => 0))), (q_4, .inl (cy 0, 16, .inl (fun _ => 0)))] := hD
  refine W.widen (k := 4) (n := 50) (by decide +kernel) (by decide +kernel) ?_
  refine va_putF (D := D) (ci := 2) (v := .ref q_4) (ty := .array .int) (C := RX2) (T := TX2) (N := 6) hx hb hts in_2 tyX2 tyX2_ok nmX2 hown hK hP hD hS 0 rfl rfl 5 (by decide) fl_21 (fun _ h9 => h9) rfl hin rfl (by decide +kernel) rfl rfl (Nat.le_of_ble_eq_true rfl) dX2_init_33 (fun H locs hP hD hS => ?_)
  have hP : va_P D vwCl [(h0, .inr (2, [.int 0, .ref q_1, .ref q_2, .int 0, .ref q_3, .ref q_4])), (q_1, .inl (cy 0, 9, .inl (fun _ => 0))), (q_2, .inl (cy 0, 9, .inl (fun _ => 0))), (q_3, .inl (cy 0, 16, .inl (fun _ => 0))), (q_4, .inl (cy 0, 16, .inl (fun _ => 0)))] H := hP
  have hD : va_D A [(h0, .inr (2, [.int 0, .ref q_1, .ref q_2, .int 0, .ref q_3, .ref q_4])), (q_1, .inl (cy 0, 9, .inl (fun _ => 0))), (q_2, .inl (cy 0, 9, .inl (fun _ => 0))), (q_3, .inl (cy 0, 16, .inl (fun _ => 0))), (q_4, .inl (cy 0, 16, .inl (fun _ => 0)))] := hD
  have hP9 := hP.sub (ws' := [(h0, .inr (2, [.int 0, .ref q_1, .ref q_2, .int 0, .ref q_3, .ref q_4])), (q_1, .inl (cy 0, 9, .inl (fun _ => 0))), (q_2, .inl (cy 0, 9, .inl (fun _ => 0))), (q_3, .inl (cy 0, 16, .inl (fun _ => 0))), (q_4, .inl (cy 0, 16, .inl (fun _ => 0)))]) [0, 1, 2, 3, 4] rfl
  have hD9 := hD.sub (ws' := [(h0, .inr (2, [.int 0, .ref q_1, .ref q_2, .int 0, .ref q_3, .ref q_4])), (q_1, .inl (cy 0, 9, .inl (fun _ => 0))), (q_2, .inl (cy 0, 9, .inl (fun _ => 0))), (q_3, .inl (cy 0, 16, .inl (fun _ => 0))), (q_4, .inl (cy 0, 16, .inl (fun _ => 0)))]) [0, 1, 2, 3, 4] (by decide) rfl
  exact W.vret hx hb hr (fun t ht hW => ⟨⟨(), rfl, trivial, q_1, q_2, q_3, q_4, by rw [ht]; exact hP9, hD9⟩, hS.F ht⟩) hS.2.2 dX2_init_36
end
