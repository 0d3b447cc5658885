/-! the reference: a sea in hand -/
/-- all pointers of the Model -/
def rQL : List (Nat × Int) := [(1, 0), (2, 1), (3, 2), (4, 3), (5, 4), (6, 5), (7, 6), (8, 7), (18, 8), (19, 9), (30, 10), (31, 11), (32, 12), (36, 13), (37, 14), (38, 15), (39, 20), (40, 19), (41, 16), (42, 17), (43, 18), (44, 21), (45, 22), (46, 23), (47, 24), (48, 25), (52, 27), (53, 28), (54, 26), (58, 29), (59, 30), (60, 31), (61, 32), (62, 33), (63, 34)]
def rQ (g : yH) : Prop := ∀ p ∈ rQL, g 35 p.1 = p.2
theorem rQ.p {g : yH} (hq : rQ g) {j : Nat} {k : Int} (hm : (j, k) ∈ rQL) : g 35 j = k := hq _ hm
theorem rQ.P {g : yH} (hq : rQ g) : rP g := ⟨hq.p (j := 1) (k := 0) (by decide), hq.p (j := 2) (k := 1) (by decide), hq.p (j := 3) (k := 2) (by decide), hq.p (j := 4) (k := 3) (by decide), hq.p (j := 5) (k := 4) (by decide), hq.p (j := 6) (k := 5) (by decide), hq.p (j := 7) (k := 6) (by decide), hq.p (j := 8) (k := 7) (by decide), hq.p (j := 18) (k := 8) (by decide), hq.p (j := 19) (k := 9) (by decide)⟩
def rQs : List Nat := rQL.map Prod.fst
theorem rQ.fr {g g2 : yH} (hq : rQ g) (e : ∀ j, j ∈ rQs → g2 35 j = g 35 j) : rQ g2 := fun p hp => by
  rw [e p.1 (List.mem_map.mpr ⟨p, hp, rfl⟩)]
  exact hq p hp
theorem rQ.up {g : yH} {a j : Nat} {x : Int} (hq : rQ g) (hn : a ≠ 35 ∨ rQs.contains j = false) : rQ (zup g a j x) := hq.fr (fun i hi => zup_ne (fun w => by
  rcases hn with hn | hn
  · exact hn w.1.symm
  · rw [← w.2] at hn
    have := List.contains_iff_mem.mpr hi
    rw [this] at hn
    cases hn))
/-- a sea in hand: which one, and its numbers -/
def sH (s : Nat) (t : Nat → Int) (g : yH) : Prop := s < 2 ∧ g 35 23 = (s : Int) ∧ (∀ j, j < 50 → g 5 (50 * s + j) = t j) ∧ rQ g
theorem sH.fr {s : Nat} {t : Nat → Int} {g g2 : yH} (H : sH s t g) (e : ∀ a j, a = 5 ∨ (a = 35 ∧ (j = 23 ∨ j ∈ rQs)) → g2 a j = g a j) : sH s t g2 := ⟨H.1, by rw [e _ _ (by omega)]; exact H.2.1, fun j hj => by rw [e _ _ (by omega)]; exact H.2.2.1 j hj, H.2.2.2.fr (fun j hj => e _ _ (Or.inr ⟨rfl, Or.inr hj⟩))⟩
theorem of_e {n s : Nat} {t : Nat → Int} {g : yH} (H : sH s t g) {x : Int} {k : Nat} (hx : x = (k : Int)) (hk : k < 50) : f_X12_of n [35, x] g = some (t k, g) := by
  obtain ⟨h1, h2, h3, h4⟩ := H
  subst hx
  rw [e_X12_of, xg_pos (h4.p (j := 6) (k := 5) (by decide)), h2, xg_pos (by omega), xg_pos (by omega), xg_pos (by omega), show (50 * (s : Int) + (k : Int)).toNat = 50 * s + k by omega, h3 k hk]
/-- the fields of a sea in hand -/
def sF (t : Nat → Int) (g : yH) : Prop := g 35 24 = t 0 ∧ g 35 25 = t 1 ∧ g 35 26 = t 2 ∧ g 35 27 = t 3 ∧ g 35 29 = t 5 ∧ g 35 28 = t 6
theorem hand_l {n0 s : Nat} {x1 : Int} {t : Nat → Int} {g : yH} (hW : tW0 t) (H : sH s t g) (hF : sF t g) : ∀ (m b n : Nat) (g1 : yH), 7 - b = m → (b : Int) ≤ t 6 → m ≤ n → (∀ a j, a ≠ 10 → a ≠ 11 → g1 a j = g a j) → (∀ i : Nat, i < b → g1 10 i = t (31 + 3 * i) ∧ g1 11 i = t (32 + 3 * i)) →
    yR (xl_X12_hand n 73 [35, x1, (b : Int)] g1) (fun v g2 => v = 1 ∧ (∀ a j, a ≠ 10 → a ≠ 11 → g2 a j = g a j) ∧ ∀ i : Nat, (i : Int) < t 6 → g2 10 i = t (31 + 3 * i) ∧ g2 11 i = t (32 + 3 * i)) := by
  have w6 : 0 ≤ t 6 ∧ t 6 ≤ 6 := hW.2.2.2.2.2.2.1
  intro m
  induction m with
  | zero =>
    intro b n g1 e1 e2
    omega
  | succ m ih =>
    intro b n g1 e1 e2 e3 fr hb
    obtain ⟨n, rfl⟩ : ∃ n', n = n' + 1 := ⟨n - 1, by omega⟩
    rw [e_X12_hand_73, fr 35 28 (by omega) (by omega), hF.2.2.2.2.2]
    have H1 : sH s t g1 := H.fr (fun a j w => fr a j (by omega) (by omega))
    by_cases c : (b : Int) < t 6
    · have wb := hW.2.2.2.2.2.2.2.2.2.2 b (by omega)
      rw [if_pos c, xg_pos (H1.2.2.2.p (j := 30) (k := 10) (by decide)), xg_pos (by omega), xg_pos (by omega), of_e H1 (k := 31 + 3 * b) (by omega) (by omega), xb_some, xg_pos (by omega), xg_pos (by omega), xg_pos (H1.2.2.2.p (j := 31) (k := 11) (by decide)), xg_pos (by omega), xg_pos (by omega), xg_pos (by omega), Int.toNat_natCast]
      have H2 : sH s t (zup g1 10 b (t (31 + 3 * b))) := H1.fr (fun a j w => zup_ne (by omega))
      rw [of_e H2 (k := 32 + 3 * b) (by omega) (by omega), xb_some, xg_pos (by omega), xg_pos (by omega), show (b : Int) + 1 = ((b + 1 : Nat) : Int) by omega]
      refine ih (b + 1) n _ (by omega) (by omega) (by omega) (fun a j w1 w2 => by rw [zup_ne (by omega), zup_ne (by omega)]; exact fr a j w1 w2) (fun i hi => ?_)
      by_cases ci : i = b
      · subst ci
        exact ⟨by rw [zup_ne (by omega), zup_at], by rw [zup_at]⟩
      · rw [zup_ne (by omega), zup_ne (by omega), zup_ne (by omega), zup_ne (by omega)]
        exact hb i (by omega)
    · rw [if_neg c]
      exact yR.s ⟨rfl, fr, fun i hi => hb i (by omega)⟩
/-- what hand() leaves -/
def hdR (s : Nat) (t : Nat → Int) (g g2 : yH) : Prop := sH s t g2 ∧ sF t g2 ∧ (∀ b : Nat, (b : Int) < t 6 → g2 10 b = t (31 + 3 * b) ∧ g2 11 b = t (32 + 3 * b)) ∧ ∀ a j, ¬ (a = 35 ∧ 23 ≤ j ∧ j ≤ 29) → a ≠ 10 → a ≠ 11 → g2 a j = g a j
theorem hand_e {n s : Nat} {t : Nat → Int} {g : yH} (hn : 7 ≤ n) (hq : rQ g) (h4 : ∀ j, j < 12 → 0 ≤ g 4 j ∧ g 4 j ≤ 2) (hs : (s : Int) < g 4 0) (ht : ∀ j, j < 50 → g 5 (50 * s + j) = t j) (hW : tW0 t) : yR (f_X12_hand n [35, (s : Int)] g) (fun v g2 => v = 1 ∧ hdR s t g g2) := by
  have b4 := h4 0 (by decide)
  obtain ⟨w0, w1, w2, w3, w4, w5, w6, -⟩ := id hW
  rw [e_X12_hand, is_e (s := 0) (hq.p (j := 5) (k := 4) (by decide)) (by decide) b4, xb_some, show g 4 (0 : Int).toNat = g 4 0 from rfl, if_pos (show 0 ≤ (s : Int) ∧ (s : Int) < g 4 0 by omega), if_neg (by decide), xg_pos (by omega)]
  have mk : ∀ (g1 : yH) (k j : Nat), sH s t g1 → 24 ≤ j → j ≤ 29 → sH s t (zup g1 35 j (t k)) := fun g1 k j H h1 h2 => H.fr (fun a i w => zup_ne (fun c => by
    obtain ⟨c1, c2⟩ := c
    rcases w with w | ⟨-, w | w⟩
    · omega
    · omega
    · have : ∀ j ∈ rQs, ¬ (23 ≤ j ∧ j ≤ 29) := by decide
      have := this i w
      omega))
  have H0 : sH s t (zup g 35 23 (s : Int)) := ⟨by omega, zup_at _ _ _ _, fun j hj => by rw [zup_ne (by omega)]; exact ht j hj, hq.up (Or.inr (by decide))⟩
  rw [of_e (x := 0) H0 (k := 0) rfl (by omega), xb_some, xg_pos (by omega)]
  have H1 := mk _ 0 24 H0 (by omega) (by omega)
  rw [of_e (x := 1) H1 (k := 1) rfl (by omega), xb_some, xg_pos (by omega)]
  have H2 := mk _ 1 25 H1 (by omega) (by omega)
  rw [of_e (x := 2) H2 (k := 2) rfl (by omega), xb_some]
  have H3 := mk _ 2 26 H2 (by omega) (by omega)
  rw [of_e (x := 3) H3 (k := 3) rfl (by omega), xb_some]
  have H4 := mk _ 3 27 H3 (by omega) (by omega)
  rw [of_e (x := 5) H4 (k := 5) rfl (by omega), xb_some, xg_pos (by omega)]
  have H5 := mk _ 5 29 H4 (by omega) (by omega)
  rw [of_e (x := 6) H5 (k := 6) rfl (by omega), xb_some, xg_pos (by omega)]
  have H6 := mk _ 6 28 H5 (by omega) (by omega)
  have F6 : sF t (zup (zup (zup (zup (zup (zup (zup g 35 23 (s : Int)) 35 24 (t 0)) 35 25 (t 1)) 35 26 (t 2)) 35 27 (t 3)) 35 29 (t 5)) 35 28 (t 6)) := by
    refine ⟨?_, ?_, ?_, ?_, ?_, ?_⟩ <;> simp [zup]
  have fr : ∀ a j, ¬ (a = 35 ∧ 23 ≤ j ∧ j ≤ 29) → (zup (zup (zup (zup (zup (zup (zup g 35 23 (s : Int)) 35 24 (t 0)) 35 25 (t 1)) 35 26 (t 2)) 35 27 (t 3)) 35 29 (t 5)) 35 28 (t 6)) a j = g a j := fun a j w => by
    rw [zup_ne (by omega), zup_ne (by omega), zup_ne (by omega), zup_ne (by omega), zup_ne (by omega), zup_ne (by omega), zup_ne (by omega)]
  generalize zup (zup (zup (zup (zup (zup (zup g 35 23 (s : Int)) 35 24 (t 0)) 35 25 (t 1)) 35 26 (t 2)) 35 27 (t 3)) 35 29 (t 5)) 35 28 (t 6) = g6 at *
  refine (hand_l (n0 := n) hW H6 F6 7 0 n g6 rfl (by omega) hn (fun _ _ _ _ => rfl) (fun i hi => absurd hi (by omega))).m (fun v g2 ⟨r1, r2, r3⟩ => ⟨r1, ?_, ?_, r3, fun a j w w10 w11 => by rw [r2 a j w10 w11]; exact fr a j w⟩)
  · exact H6.fr (fun a j w => r2 a j (by omega) (by omega))
  · obtain ⟨f0, f1, f2, f3, f4, f5⟩ := F6
    exact ⟨by rw [r2 _ _ (by omega) (by omega)]; exact f0, by rw [r2 _ _ (by omega) (by omega)]; exact f1, by rw [r2 _ _ (by omega) (by omega)]; exact f2, by rw [r2 _ _ (by omega) (by omega)]; exact f3, by rw [r2 _ _ (by omega) (by omega)]; exact f4, by rw [r2 _ _ (by omega) (by omega)]; exact f5⟩
theorem hand_n {n : Nat} {x : Int} {g : yH} (hq : rQ g) (h4 : ∀ j, j < 12 → 0 ≤ g 4 j ∧ g 4 j ≤ 2) (hs : ¬ (0 ≤ x ∧ x < g 4 0)) : f_X12_hand n [35, x] g = some (0, g) := by
  rw [e_X12_hand, is_e (s := 0) (hq.p (j := 5) (k := 4) (by decide)) (by decide) (h4 0 (by decide)), xb_some, show g 4 (0 : Int).toNat = g 4 0 from rfl, if_neg hs, if_pos rfl]
