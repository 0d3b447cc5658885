/-! the reference: a sea's line from its word on -/
theorem full_e {n : Nat} {h : yH} {ct : Nat} {most p : Int} {q : Int × Int} (hp : rP h) (hct : ct < 121) (hq : rN h q) (h0 : q.1 = 0 ∨ q.2 < p) {B : Prop} [Decidable B] (hB : B ↔ h 8 ct = most) :
    ∃ h2, f_X12_full n [35, (ct : Int), most, p] h = some (0, h2) ∧ rN h2 (nt q B 3 p) ∧ ∀ a j, ¬ (a = 35 ∧ (j = 16 ∨ j = 17)) → h2 a j = h a j := by
  have p18 : h 35 18 = 8 := hp.2.2.2.2.2.2.2.2.1
  rw [e_X12_full, xg_pos p18, xg_pos (by omega), Int.toNat_natCast]
  by_cases hf : h 8 ct = most
  · rw [if_pos hf]
    obtain ⟨l1, l2⟩ := later_e (n := n) (f := 3) (p := p) hq h0 (by decide)
    have hnt : nt q True 3 p = nt q B 3 p := by
      unfold nt
      by_cases hz : q.1 = 0
      · rw [if_pos ⟨hz, trivial⟩, if_pos ⟨hz, hB.mpr hf⟩]
      · rw [if_neg (fun w => hz w.1), if_neg (fun w => hz w.1)]
    rw [hnt] at l2
    refine ⟨_, by rw [l1, xb_some], l2, fun a j w => ?_⟩
    split
    · rw [zup_ne (by omega), zup_ne (by omega)]
    · rfl
  · rw [if_neg hf]
    exact ⟨h, rfl, by rw [nt_f (fun w => hf (hB.mp w))]; exact hq, fun _ _ _ => rfl⟩
/-- behind a line's word: the first number stands there -/
theorem start_e {u : Nat → Int} {N x n : Nat} {h : yH} {q : Int × Int} (hn : 1400 ≤ n) (hx : x ≤ N) (hc : rC u N h) (hA : tokA u N x h) (hK : tkK u N x ≠ 0) (hq : rN h q) (h0 : q.1 = 0 ∨ q.2 ≤ (tkS u N x : Nat)) :
    ∃ h2, f_X12_token n [35] h = some (0, h2) ∧ rC u N h2 ∧ tokA u N (tkN u N x 1) h2 ∧ rN h2 q ∧ (q.1 = 0 ∨ q.2 < lp u N x 0) ∧ tokF h h2 := by
  have hE := @tkE_n u N x hx
  obtain ⟨h2, r0, r1, r2⟩ := token_e (n := n) hn hc.2.2.1 hc.1 hc.2.2.2.1 hc.2.1 hA.1 hE
  have hs := tkS_next hK
  refine ⟨h2, r0, r2.c hc, r1, ?_, ?_, r2⟩
  · obtain ⟨b1, b2, b3, b4⟩ := hq
    exact ⟨by rw [r2 35 16 (by omega)]; exact b1, fun w => by rw [r2 35 17 (by omega)]; exact b2 w, b3, b4⟩
  · rcases h0 with h0 | h0
    · exact Or.inl h0
    · refine Or.inr ?_
      unfold lp
      show q.2 < ((tkS u N (tkE u N x) : Nat) : Int)
      omega
theorem rS_g {u : Nat → Int} {N x ln off : Nat} {q0 : Int × Int} {h : yH} (hc : rC u N h) (hA : tokA u N (tkN u N x 1) h) (hq : rN h q0) (hp : q0.1 = 0 ∨ q0.2 < lp u N x 0) : rS u N x ln off q0 (zup h 35 22 1) 0 (zup h 35 22 1) := by
  obtain ⟨a1, a2, a3, a4, a5⟩ := hA
  obtain ⟨b1, b2, b3, b4⟩ := hq
  refine rS_0 (hc.up (by decide) (by omega)) ⟨by rw [zup_ne (by omega)]; exact a1, by rw [zup_ne (by omega)]; exact a2, by rw [zup_ne (by omega)]; exact a3, fun w => by rw [zup_ne (by omega)]; exact a4 w, fun w => by rw [zup_ne (by omega)]; exact a5 w⟩ ⟨by rw [zup_ne (by omega)]; exact b1, fun w => by rw [zup_ne (by omega)]; exact b2 w, b3, b4⟩ hp
/-- what a line leaves, told of the cells ahead of it -/
theorem lnD.back {u : Nat → Int} {N x of ln : Nat} {q0 : Int × Int} {h h0 h2 : yH} (hD : lnD u N x of ln q0 h0 h2) (h8 : h0 8 = h 8) (h20 : h0 35 20 = h 35 20) (h21 : h0 35 21 = h 35 21) (hp : pF h h0) : lnD u N x of ln q0 h h2 := by
  obtain ⟨d1, d2, d3, d4, d5, d6, d7, d8, d9⟩ := hD
  exact ⟨d1, d2, d3, d4, by rw [← h8]; exact d5, d6, by rw [← h20]; exact d7, by rw [← h21]; exact d8, hp.tr d9⟩
theorem lnX1.back {p : Int} {h h0 h2 : yH} (hX : lnX1 p h0 h2) (hp : pF h h0) : lnX1 p h h2 := ⟨hX.1, hX.2.1, hp.tr hX.2.2⟩
/-- a line whose numbers are taken, and what it writes -/
theorem lnD_of {u : Nat → Int} {N x of ln off : Nat} {q0 : Int × Int} {h0 h h2 : yH} {m : Nat} (hS : rS u N x ln off q0 h0 m h) (hm : lnN ln = m) (h8 : (∀ j, j < lnN ln → ¬ lnB ln (lv u N x) j) → h2 8 = lnT ln (lv u N x) (h0 8)) (hB : rB of (h2 8)) (h20 : h2 35 20 = lnFc ln (lv u N x) (h0 35 20)) (h21 : h2 35 21 = lnFo ln (lv u N x) (h0 35 21)) (hF : ∀ a j, a ≠ 8 → ¬ (a = 35 ∧ (j = 20 ∨ j = 21)) → h2 a j = h a j) : lnD u N x of ln q0 h0 h2 := by
  obtain ⟨hc, hA, hq, hp, hv, hg1, hg2, hFr⟩ := hS
  subst hm
  obtain ⟨a1, a2, a3, a4, a5⟩ := hA
  obtain ⟨b1, b2, b3, b4⟩ := hq
  refine ⟨⟨by
      rw [← hc.1]
      funext i
      unfold uR
      rw [hF 0 i (by decide) (by omega)], by rw [hF 35 10 (by decide) (by omega)]; exact hc.2.1, hc.2.2.1, hc.2.2.2.fr (fun j hj => hF 35 j (by decide) (by omega))⟩, ⟨by rw [hF 35 9 (by decide) (by omega)]; exact a1, by rw [hF 35 11 (by decide) (by omega)]; exact a2, by rw [hF 35 12 (by decide) (by omega)]; exact a3, fun w => by rw [hF 35 13 (by decide) (by omega)]; exact a4 w, fun w => by rw [hF 35 14 (by decide) (by omega)]; exact a5 w⟩, ⟨by rw [hF 35 16 (by decide) (by omega)]; exact b1, fun w => by rw [hF 35 17 (by decide) (by omega)]; exact b2 w, b3, b4⟩, hp, h8, hB, h20, h21, fun a j w => by rw [hF a j (by omega) (by omega)]; exact hFr a j (by omega) (by omega)⟩
theorem coast_l {n : Nat} {h : yH} {c : Nat} (hp : rP h) (hg : h 35 22 ≠ 0) (hc : h 9 0 = (c : Int)) (hc2 : c ≤ 2) (hv : ∀ i, i < 5 → -1 ≤ h 9 i ∧ h 9 i ≤ 99) :
    ∀ (m i : Nat) (g : yH), 4 - i = m → m < n → i ≤ 4 → (∀ a j, g a j = if a = 8 ∧ 7 + 4 * c ≤ j ∧ j < 7 + 4 * c + i then h 9 (1 + (j - (7 + 4 * c))) else h a j) →
      ∃ h2, xl_X12_coastLine n 57 [35, (i : Int)] g = some (1, h2) ∧ ∀ a j, h2 a j = if a = 8 ∧ 7 + 4 * c ≤ j ∧ j < 7 + 4 * c + 4 then h 9 (1 + (j - (7 + 4 * c))) else h a j := by
  have p18 : h 35 18 = 8 := hp.2.2.2.2.2.2.2.2.1
  have p19 : h 35 19 = 9 := hp.2.2.2.2.2.2.2.2.2
  intro m
  revert n
  induction m with
  | zero =>
    intro n i g e1 e2 hi hg9
    obtain ⟨n, rfl⟩ : ∃ n', n = n' + 1 := ⟨n - 1, by omega⟩
    rw [e_X12_coastLine_57, if_neg (by omega)]
    have ei : i = 4 := by omega
    subst ei
    exact ⟨g, rfl, hg9⟩
  | succ m ih =>
    intro n i g e1 e2 hi hg9
    obtain ⟨n, rfl⟩ : ∃ n', n = n' + 1 := ⟨n - 1, by omega⟩
    have g22 : g 35 22 ≠ 0 := by rw [hg9, if_neg (by omega)]; exact hg
    have g18 : g 35 18 = 8 := by rw [hg9, if_neg (by omega)]; exact p18
    have g19 : g 35 19 = 9 := by rw [hg9, if_neg (by omega)]; exact p19
    have g0 : g 9 0 = (c : Int) := by rw [hg9, if_neg (by omega)]; exact hc
    have gi : g 9 (1 + i) = h 9 (1 + i) := by rw [hg9, if_neg (by omega)]
    have hvi := hv (1 + i) (by omega)
    rw [e_X12_coastLine_57, if_pos (by omega), if_neg g22, xg_pos g18, xg_pos g19, g0, xg_pos (by omega), xg_pos (by omega), xg_pos (by omega), xg_pos g19, xg_pos (by omega), xg_pos (by omega), xg_pos (by omega), show (1 + (i : Int)).toNat = 1 + i by omega, gi, xg_pos (by omega), xg_pos (by omega), show (7 + 4 * (c : Int) + (i : Int)).toNat = 7 + 4 * c + i by omega]
    refine ih (n := n) (i + 1) _ (by omega) (by omega) (by omega) (fun a j => ?_)
    by_cases hr : a = 8 ∧ j = 7 + 4 * c + i
    · obtain ⟨rfl, rfl⟩ := hr
      rw [zup_at, if_pos (by omega), show 7 + 4 * c + i - (7 + 4 * c) = i by omega]
    · rw [zup_ne hr, hg9]
      by_cases hr2 : a = 8 ∧ 7 + 4 * c ≤ j ∧ j < 7 + 4 * c + i
      · rw [if_pos hr2, if_pos (by omega)]
      · rw [if_neg hr2, if_neg (by omega)]
theorem coast_e {u : Nat → Int} {N x n : Nat} {q0 : Int × Int} {h0 : yH} (hn : 1400 ≤ n) (hx : x ≤ N) (hS : rS u N x 3 0 q0 h0 0 h0) (hg0 : h0 35 22 = 1) (hB : rB 0 (h0 8)) :
    ((∀ i, i < lnN 3 → tkK u N (tkN u N x (i + 1)) = 3) → ∃ h2, f_X12_coastLine n [35] h0 = some (1, h2) ∧ lnD u N x 0 3 q0 h0 h2) ∧
    ∀ i, i < lnN 3 → tkK u N (tkN u N x (i + 1)) ≠ 3 → (∀ j, j < i → tkK u N (tkN u N x (j + 1)) = 3) → ∃ h2, f_X12_coastLine n [35] h0 = some (0, h2) ∧ lnX1 (lp u N x i) h0 h2 := by
  have l5 : lnN 3 = 5 := by decide
  have t0 : tkK u N (tkN u N x 1) = 3 → ∃ h2, f_X12_take n [35, 0, 0, 2] h0 = some (1, h2) ∧ rS u N x 3 0 q0 h0 1 h2 := fun hK => take_t hn hx hS hK rfl (by decide) (fun _ => lnB_t (by decide) (by decide) (by decide))
  have t1 : ∀ h, rS u N x 3 0 q0 h0 1 h → tkK u N (tkN u N x 2) = 3 → ∃ h2, f_X12_take n [35, 1, 1, 20] h = some (1, h2) ∧ rS u N x 3 0 q0 h0 2 h2 := fun h hS hK => take_t hn hx hS hK rfl (by decide) (fun _ => lnB_t (by decide) (by decide) (by decide))
  have t2 : ∀ h, rS u N x 3 0 q0 h0 2 h → tkK u N (tkN u N x 3) = 3 → ∃ h2, f_X12_take n [35, 2, 0, 5] h = some (1, h2) ∧ rS u N x 3 0 q0 h0 3 h2 := fun h hS hK => take_t hn hx hS hK rfl (by decide) (fun _ => lnB_t (by decide) (by decide) (by decide))
  have t3 : ∀ h, rS u N x 3 0 q0 h0 3 h → tkK u N (tkN u N x 4) = 3 → ∃ h2, f_X12_take n [35, 3, 0, 20] h = some (1, h2) ∧ rS u N x 3 0 q0 h0 4 h2 := fun h hS hK => take_t hn hx hS hK rfl (by decide) (fun _ => lnB_t (by decide) (by decide) (by decide))
  have t4 : ∀ h, rS u N x 3 0 q0 h0 4 h → tkK u N (tkN u N x 5) = 3 → ∃ h2, f_X12_take n [35, 4, 1, 30] h = some (1, h2) ∧ rS u N x 3 0 q0 h0 5 h2 := fun h hS hK => take_t hn hx hS hK rfl (by decide) (fun _ => lnB_t (by decide) (by decide) (by decide))
  constructor
  · intro hK
    obtain ⟨h1, r1, s1⟩ := t0 (hK 0 (by omega))
    obtain ⟨h2, r2, s2⟩ := t1 h1 s1 (hK 1 (by omega))
    obtain ⟨h3, r3, s3⟩ := t2 h2 s2 (hK 2 (by omega))
    obtain ⟨h4, r4, s4⟩ := t3 h3 s3 (hK 3 (by omega))
    obtain ⟨h5, r5, s5⟩ := t4 h4 s4 (hK 4 (by omega))
    have e8 : h5 8 = h0 8 := by
      funext j
      exact s5.2.2.2.2.2.2.2 8 j (by omega) (by omega)
    have e20 : h5 35 20 = h0 35 20 := s5.2.2.2.2.2.2.2 35 20 (by omega) (by omega)
    have e21 : h5 35 21 = h0 35 21 := s5.2.2.2.2.2.2.2 35 21 (by omega) (by omega)
    have hv := s5.2.2.2.2.1
    rw [e_X12_coastLine, r1, xb_some, if_neg (by decide), r2, xb_some, if_neg (by decide), r3, xb_some, if_neg (by decide), r4, xb_some, if_neg (by decide), r5, xb_some, if_neg (by decide)]
    by_cases hbad : ∃ j, j < 5 ∧ lnB 3 (lv u N x) j
    · have g22 := s5.2.2.2.2.2.2.1 hbad
      obtain ⟨n, rfl⟩ : ∃ n', n = n' + 1 := ⟨n - 1, by omega⟩
      rw [e_X12_coastLine_57, if_pos (by decide), if_pos g22]
      refine ⟨h5, rfl, lnD_of s5 l5 (fun w => ?_) (by rw [e8]; exact hB) e20 e21 (fun _ _ _ _ => rfl)⟩
      obtain ⟨j, hj, hb⟩ := hbad
      exact absurd hb (w j (by omega))
    · have hgood : ∀ j, j < 5 → ¬ lnB 3 (lv u N x) j := fun j hj hb => hbad ⟨j, hj, hb⟩
      have g22 : h5 35 22 ≠ 0 := by
        rw [s5.2.2.2.2.2.1 hgood, hg0]
        decide
      have hv0 : 0 ≤ lv u N x 0 ∧ lv u N x 0 ≤ 2 := by
        have h1 := hgood 0 (by decide)
        rw [lnB_t (lo := 0) (hi := 2) (by decide) (by decide) (by decide)] at h1
        exact Classical.not_not.mp h1
      obtain ⟨c, hc⟩ : ∃ c : Nat, lv u N x 0 = (c : Int) := ⟨(lv u N x 0).toNat, by omega⟩
      have h90 : h5 9 0 = (c : Int) := by
        have := (hv 0 (by decide)).1
        rw [← hc]
        exact this
      obtain ⟨h6, r6, s6⟩ := coast_l (n := n) (h := h5) (c := c) s5.1.2.2.2 g22 h90 (by omega) (fun i hi => by
        have := hv i hi
        rw [Nat.zero_add] at this
        omega) 4 0 h5 rfl (by omega) (by decide) (fun a j => by rw [if_neg (by omega)])
      have ne8 : ∀ a j, a ≠ 8 → h6 a j = h5 a j := fun a j ha => by rw [s6, if_neg (fun w => ha w.1)]
      refine ⟨h6, r6, lnD_of s5 l5 (fun _ => ?_) ?_ (by rw [ne8 35 20 (by decide)]; exact e20) (by rw [ne8 35 21 (by decide)]; exact e21) (fun a j w _ => ne8 a j w)⟩
      · have hL : ∀ i, i < 5 → h5 9 i = lv u N x i := fun i hi => by
          have := (hv i hi).1
          rw [Nat.zero_add] at this
          exact this
        funext j
        rw [s6]
        show _ = tU (tU (tU (tU (h0 8) (7 + 4 * (lv u N x 0).toNat) (lv u N x 1)) (7 + 4 * (lv u N x 0).toNat + 1) (lv u N x 2)) (7 + 4 * (lv u N x 0).toNat + 2) (lv u N x 3)) (7 + 4 * (lv u N x 0).toNat + 3) (lv u N x 4) j
        rw [hc, Int.toNat_natCast]
        by_cases hr : 7 + 4 * c ≤ j ∧ j < 7 + 4 * c + 4
        · rw [if_pos ⟨rfl, hr⟩]
          rcases (show j = 7 + 4 * c ∨ j = 7 + 4 * c + 1 ∨ j = 7 + 4 * c + 2 ∨ j = 7 + 4 * c + 3 by omega) with rfl | rfl | rfl | rfl
          · rw [tU_ne (by omega), tU_ne (by omega), tU_ne (by omega), tU_at, Nat.sub_self]
            exact hL 1 (by decide)
          · rw [tU_ne (by omega), tU_ne (by omega), tU_at, show 7 + 4 * c + 1 - (7 + 4 * c) = 1 by omega]
            exact hL 2 (by decide)
          · rw [tU_ne (by omega), tU_at, show 7 + 4 * c + 2 - (7 + 4 * c) = 2 by omega]
            exact hL 3 (by decide)
          · rw [tU_at, show 7 + 4 * c + 3 - (7 + 4 * c) = 3 by omega]
            exact hL 4 (by decide)
        · rw [if_neg (fun w => hr w.2), tU_ne (by omega), tU_ne (by omega), tU_ne (by omega), tU_ne (by omega), e8]
      · obtain ⟨b5, b6, b49⟩ := hB.1 rfl
        refine ⟨fun _ => ?_, fun w => by omega, fun w => by omega⟩
        rw [s6, if_neg (by omega), s6, if_neg (by omega), s6, if_neg (by omega), e8]
        exact ⟨b5, b6, b49⟩
  · intro i hi hK hj
    rw [e_X12_coastLine]
    rcases (show i = 0 ∨ i = 1 ∨ i = 2 ∨ i = 3 ∨ i = 4 by omega) with rfl | rfl | rfl | rfl | rfl
    · exact ⟨_, by rw [take_f hS hK, xb_some, if_pos rfl], hS.x pF.rfl'⟩
    · obtain ⟨h1, r1, s1⟩ := t0 (hj 0 (by omega))
      exact ⟨_, by rw [r1, xb_some, if_neg (by decide), take_f s1 hK, xb_some, if_pos rfl], s1.x pF.rfl'⟩
    · obtain ⟨h1, r1, s1⟩ := t0 (hj 0 (by omega))
      obtain ⟨h2, r2, s2⟩ := t1 h1 s1 (hj 1 (by omega))
      exact ⟨_, by rw [r1, xb_some, if_neg (by decide), r2, xb_some, if_neg (by decide), take_f s2 hK, xb_some, if_pos rfl], s2.x pF.rfl'⟩
    · obtain ⟨h1, r1, s1⟩ := t0 (hj 0 (by omega))
      obtain ⟨h2, r2, s2⟩ := t1 h1 s1 (hj 1 (by omega))
      obtain ⟨h3, r3, s3⟩ := t2 h2 s2 (hj 2 (by omega))
      exact ⟨_, by rw [r1, xb_some, if_neg (by decide), r2, xb_some, if_neg (by decide), r3, xb_some, if_neg (by decide), take_f s3 hK, xb_some, if_pos rfl], s3.x pF.rfl'⟩
    · obtain ⟨h1, r1, s1⟩ := t0 (hj 0 (by omega))
      obtain ⟨h2, r2, s2⟩ := t1 h1 s1 (hj 1 (by omega))
      obtain ⟨h3, r3, s3⟩ := t2 h2 s2 (hj 2 (by omega))
      obtain ⟨h4, r4, s4⟩ := t3 h3 s3 (hj 3 (by omega))
      exact ⟨_, by rw [r1, xb_some, if_neg (by decide), r2, xb_some, if_neg (by decide), r3, xb_some, if_neg (by decide), r4, xb_some, if_neg (by decide), take_f s4 hK, xb_some, if_pos rfl], s4.x pF.rfl'⟩
