section
/-! one claim: both sides go on alike -/
def frC (h h2 : yH) : Prop := ∀ a j, a < 130 ∨ 142 ≤ a → h2 a j = h a j
def frR (kk : Nat) (g g2 : yH) : Prop := (∀ a j, a ≤ 9 ∨ a = 11 ∨ a = 12 ∨ (26 ≤ a ∧ a ≤ 34) → g2 a j = g a j) ∧ ∀ a j, 21 ≤ a → a ≤ 25 → j ≠ kk → g2 a j = g a j
theorem frC.t {h h1 h2 : yH} (a : frC h h1) (b : frC h1 h2) : frC h h2 := fun i j w => (b i j w).trans (a i j w)
theorem frC.r {h : yH} : frC h h := fun _ _ _ => rfl
theorem frR.t {kk : Nat} {g g1 g2 : yH} (a : frR kk g g1) (b : frR kk g1 g2) : frR kk g g2 := ⟨fun i j w => (b.1 i j w).trans (a.1 i j w), fun i j w1 w2 w3 => (b.2 i j w1 w2 w3).trans (a.2 i j w1 w2 w3)⟩
theorem frR.r {kk : Nat} {g : yH} : frR kk g g := ⟨fun _ _ _ => rfl, fun _ _ _ _ _ => rfl⟩
/-- what a claim leaves -/
def clR (b e s dd : Nat) (t d : Nat → Int) (K : Int) (S q c : Nat) (p : Nat → Int) (a kk : Nat) (h g h2 g2 : yH) : Prop :=
  dR b e s dd t d K S (q + 1) c p h2 g2 ∧ (h2 130 8 = h 130 8 ∧ h2 131 6 = h 131 6) ∧ (∀ j, g2 14 j = g 14 j) ∧ (g2 35 34 = g 35 34 ∧ g2 35 50 = g 35 50) ∧ (h 130 9 = g 21 kk → h2 130 9 = g2 21 kk) ∧ (K < 1 → g2 22 kk = yari 8 (g 22 kk) (hrs (bU t p) a)) ∧ frC h h2 ∧ frR kk g g2
theorem claim2 {b e s dd a i kk n m S q c : Nat} {t d p : Nat → Int} {K said bits : Int} {h g : yH} (H : dR b e s dd t d K S q c p h g) (hT : dT t d) (hn : 7 ≤ n) (hm : 20 ≤ m) (ha : (a : Int) < t 6) (hi : i < S) (h14 : 0 < g 14 i) (hsd : 0 ≤ said ∧ said ≤ 20) (hk : g 35 34 = (kk : Int)) (hk30 : kk < 30) (h8 : h 130 8 = hrs (bU t p) a) (hbit : ¬ yari 7 (yari 6 bits (i : Int)) 1 = 0) (hq : q ≤ 1000) :
    ∃ h2 g2, xl_X5_claimShoals (n + 1) 59 [130, (a : Int), bits, said, (if said < lawV t a 0 then 0 else 1), (i : Int)] h = xl_X5_claimShoals n 59 [130, (a : Int), bits, said, (if said < lawV t a 0 then 0 else 1), ((i + 1 : Nat) : Int)] h2 ∧ f_X12_claim m [35, (kk : Int), (a : Int), (i : Int), said] g = some (0, g2) ∧ clR b e s dd t d K S q c p a kk h g h2 g2 := by
  obtain ⟨v, s1, s2, r1, r2, r3, r4, r5⟩ := gull2 (n := n) (m := m) H hT hn (by omega) ha h8
  obtain ⟨w1, w2, w3, w4, w5⟩ := H.bp hT ha
  have S6 : S ≤ 6 := H.2.2.2.1.1
  have H1 : dR b e s dd t d K S q c p (zup h 130 13 s1) (zup (zup g 35 51 s2) 22 kk (yari 8 ((zup g 35 51 s2) 22 kk) v)) := (H.sd r3).fr (Nat.le_refl _) (Nat.le_refl _) (fun _ _ _ => rfl) (fun a j w => zup_ne (by unfold nR at w; omega))
  have Q : ∀ {j : Nat} {k : Int}, (j, k) ∈ rQL → (zup g 35 51 s2) 35 j = k := fun hm => (H.sd r3).Q hm
  have g22 : (zup g 35 51 s2) 22 kk = g 22 kk := zup_ne (by omega)
  rw [g22] at H1
  have fc1 : frC h (zup h 130 13 s1) := fun a j w => zup_ne (by omega)
  have fr1 : frR kk g (zup (zup g 35 51 s2) 22 kk (yari 8 (g 22 kk) v)) := ⟨fun a j w => by rw [zup_ne (by omega), zup_ne (by omega)], fun a j w1 w2 w3 => by rw [zup_ne (by omega), zup_ne (by omega)]⟩
  have e14 : ∀ j, (zup (zup g 35 51 s2) 22 kk (yari 8 (g 22 kk) v)) 14 j = g 14 j := fun j => by rw [zup_ne (by omega), zup_ne (by omega)]
  have e34 : (zup (zup g 35 51 s2) 22 kk (yari 8 (g 22 kk) v)) 35 34 = g 35 34 := by rw [zup_ne (by omega), zup_ne (by omega)]
  have e50 : (zup (zup g 35 51 s2) 22 kk (yari 8 (g 22 kk) v)) 35 50 = g 35 50 := by rw [zup_ne (by omega), zup_ne (by omega)]
  have e21 : (zup (zup g 35 51 s2) 22 kk (yari 8 (g 22 kk) v)) 21 kk = g 21 kk := by rw [zup_ne (by omega), zup_ne (by omega)]
  have e22 : (zup (zup g 35 51 s2) 22 kk (yari 8 (g 22 kk) v)) 22 kk = yari 8 (g 22 kk) v := zup_at _ _ _ _
  have c8 : (zup h 130 13 s1) 130 8 = h 130 8 := zup_ne (by omega)
  have c9 : (zup h 130 13 s1) 130 9 = h 130 9 := zup_ne (by omega)
  have c6 : (zup h 130 13 s1) 131 6 = h 131 6 := zup_ne (by omega)
  have LL := lack2 (n := n) (m := m) (i := i) (w := v) (said := said) H1 hT (by omega) ha hi (by rw [e14]; exact h14) r4
  obtain ⟨L1, L2⟩ := LL
  have LB := lkC_0 (t := t) (a := a) (hol := hdN ((zup (zup g 35 51 s2) 22 kk (yari 8 (g 22 kk) v)) 16 i) ((zup (zup g 35 51 s2) 22 kk (yari 8 (g 22 kk) v)) 20 i) ((zup (zup g 35 51 s2) 22 kk (yari 8 (g 22 kk) v)) 35 34)) (w := v) (ac := p a) (ic := (zup (zup g 35 51 s2) 22 kk (yari 8 (g 22 kk) v)) 13 i)
  generalize lkC t a (hdN ((zup (zup g 35 51 s2) 22 kk (yari 8 (g 22 kk) v)) 16 i) ((zup (zup g 35 51 s2) 22 kk (yari 8 (g 22 kk) v)) 20 i) ((zup (zup g 35 51 s2) 22 kk (yari 8 (g 22 kk) v)) 35 34)) v (p a) ((zup (zup g 35 51 s2) 22 kk (yari 8 (g 22 kk) v)) 13 i) = lk at *
  have k22 : K < 1 → (zup (zup g 35 51 s2) 22 kk (yari 8 (g 22 kk) v)) 22 kk = yari 8 (g 22 kk) (hrs (bU t p) a) := fun w => by rw [e22, r5 w]
  have eR : ∀ r : yO, (if lk + (if said < lawV t a 0 then 8 else 0) = 1 then xq_X12_claim_48 m [35, (kk : Int), (a : Int), (i : Int), said, v, lk + (if said < lawV t a 0 then 8 else 0), yari 5 1 (i : Int), (zup (zup g 35 51 s2) 22 kk (yari 8 (g 22 kk) v)) 35 49, 35] (zup (zup g 35 51 s2) 22 kk (yari 8 (g 22 kk) v)) else xq_X12_claim_48 m [35, (kk : Int), (a : Int), (i : Int), said, v, lk + (if said < lawV t a 0 then 8 else 0), 0, (zup (zup g 35 51 s2) 22 kk (yari 8 (g 22 kk) v)) 35 49, 35] (zup (zup g 35 51 s2) 22 kk (yari 8 (g 22 kk) v))) = r → f_X12_claim m [35, (kk : Int), (a : Int), (i : Int), said] g = r := by
    intro r e
    rw [e_X12_claim, r2, xb_some, xg_pos (Q (j := 45) (k := 22) (by decide)), xg_pos (by omega), xg_pos (by omega), Int.toNat_natCast kk, g22, L2, xb_some]
    exact e
  have eC : ∀ (x4 : Int) (r : yO), (if x4 = 0 then xq_X5_claimShoals_149 n (xl_X5_claimShoals n) [130, (a : Int), bits, said, x4, (i : Int), lk] (zup h 130 13 s1) else (if lk = 0 then (xg ((zup h 130 13 s1) 130 2 = 131) (xg (0 ≤ ((zup h 130 13 s1) 130 0)) (xb (f_X6_lawOf n [((zup h 130 13 s1) 130 0), (a : Int), 3] (zup h 130 13 s1)) (fun v3 h3 => xg (-2147483648 ≤ ((zup h 130 13 s1) 130 6) + v3 ∧ ((zup h 130 13 s1) 130 6) + v3 ≤ 2147483647) (xb (f_X7_hold n [131, (i : Int), (a : Int), said, (((zup h 130 13 s1) 130 6) + v3)] h3) (fun _ h4 => xg (h4 130 5 = 140) (xg (0 ≤ (a : Int) ∧ (a : Int) < 6) (xg (-2147483648 ≤ (h4 140 (a : Int).toNat) + 1 ∧ (h4 140 (a : Int).toNat) + 1 ≤ 2147483647) (xg (0 ≤ (a : Int) ∧ (a : Int) < 6) (xq_X5_claimShoals_149 n (xl_X5_claimShoals n) [130, (a : Int), bits, said, x4, (i : Int), lk] (zup (zup h4 140 (a : Int).toNat ((h4 140 (a : Int).toNat) + 1)) 130 9 (yari 8 (h4 130 9) (yari 5 1 (i : Int)))))))))))))) else xq_X5_claimShoals_149 n (xl_X5_claimShoals n) [130, (a : Int), bits, said, x4, (i : Int), lk] (zup h 130 13 s1))) = r → xl_X5_claimShoals (n + 1) 59 [130, (a : Int), bits, said, x4, (i : Int)] h = r := by
    intro x4 r e
    rw [e_X5_claimShoals_59, if_pos (by omega), if_neg hbit, r1, xb_some, L1, xb_some]
    exact e
  clear L1 L2 r1 r2 e22 Q g22
  generalize zup (zup g 35 51 s2) 22 kk (yari 8 (g 22 kk) v) = g1 at *
  generalize zup h 130 13 s1 = h1 at *
  obtain ⟨n1, n2, n3, n4, n5, n6, n7, n8⟩ := id H1.2.2.1
  have nxt : (i : Int) + 1 = ((i + 1 : Nat) : Int) := by omega
  have Q1 : ∀ {j : Nat} {k : Int}, (j, k) ∈ rQL → g1 35 j = k := fun hm => H1.Q hm
  have z49 : zup g1 35 49 (yari 8 (g1 35 49) 0) = g1 := by rw [or0 n4, zup_self]
  have same : clR b e s dd t d K S q c p a kk h g h1 g1 := ⟨H1.fr (by omega) (Nat.le_refl _) (fun _ _ _ => rfl) (fun _ _ _ => rfl), ⟨c8, c6⟩, e14, ⟨e34, e50⟩, fun w => by rw [c9, e21]; exact w, k22, fc1, fr1⟩
  by_cases c0 : said < lawV t a 0
  · rw [if_pos c0]
    rw [if_pos c0] at eR
    refine ⟨h1, g1, eC 0 _ ?_, eR _ ?_, same⟩
    · rw [if_pos rfl, e_X5_claimShoals_149, if_pos rfl, xg_pos (by omega), nxt]
    · rw [if_neg (by omega), e_X12_claim_48, if_neg (by omega), z49]
  · rw [if_neg c0]
    rw [if_neg c0, Int.add_zero] at eR
    by_cases c1 : lk = 0
    · have l3 := lawC_e (n := n) (w := 3) H1.1.2.2.2.2.1 H1.1.2.2.2.2.2.1 hT.1 ha (by decide)
      have b3 := law3_b (w := 3) hT.1 w3 (by decide)
      rw [show ((3 : Nat) : Int) = 3 from rfl] at l3
      obtain ⟨p1, p2, p3, p4, p5, p6, p7, p8, p9, p10, p11⟩ := id H1.1.2.1
      obtain ⟨-, dBa⟩ := id H1.2.2.2.2
      obtain ⟨-, -, b140, b18, b18'⟩ := dBa a ha
      have hk1 : g1 35 34 = (kk : Int) := e34.trans hk
      have fh : ∀ x j, ¬ ((x = 135 ∨ x = 136 ∨ x = 137) ∧ j = i) → (zup (zup (zup h1 137 i (a : Int)) 135 i said) 136 i ((kk : Int) + lawV t a 3)) x j = h1 x j := fun x j w => by rw [zup_ne (by omega), zup_ne (by omega), zup_ne (by omega)]
      have l3' : ∀ g2 : yH, sH s t g2 → f_X12_lawOf m [35, (a : Int), 3] g2 = some (lawV t a 3, g2) := fun g2 h2 => by
        have := lawOf_e (n := m) (w := 3) h2 hT.1 w3 (by decide)
        rw [show ((3 : Nat) : Int) = 3 from rfl] at this
        exact this
      have sH2 : sH s t (zup (zup (zup (zup g1 21 kk (yari 8 (g1 21 kk) (yari 5 1 (i : Int)))) 18 a (g1 18 a + 1)) 20 i (a : Int)) 19 i said) := H1.2.1.1.1.nf (fun x j w => by rw [zup_ne (by omega), zup_ne (by omega), zup_ne (by omega), zup_ne (by omega)])
      have D1 : dS (t 0 * t 1) (t 6) S h1 (zup (zup g1 21 kk (yari 8 (g1 21 kk) (yari 5 1 (i : Int)))) 18 a (g1 18 a + 1)) := H1.2.2.2.1.fr (fun _ _ _ => rfl) (fun x j w => by rw [zup_ne (by omega), zup_ne (by omega)])
      have D2 := D1.hold (a := a) (said := said) (x := (kk : Int) + lawV t a 3) hi ha hsd (by omega)
      have B2 := H1.2.2.2.2.law (x := h1 140 a + 1) (y := g1 18 a + 1) ha rfl rfl
      refine ⟨zup (zup (zup (zup (zup h1 137 i (a : Int)) 135 i said) 136 i ((kk : Int) + lawV t a 3)) 140 a (h1 140 a + 1)) 130 9 (yari 8 (h1 130 9) (yari 5 1 (i : Int))), zup (zup (zup (zup (zup g1 21 kk (yari 8 (g1 21 kk) (yari 5 1 (i : Int)))) 18 a (g1 18 a + 1)) 20 i (a : Int)) 19 i said) 16 i ((kk : Int) + lawV t a 3), eC 1 _ ?_, eR _ ?_, ⟨?_, ?_, ?_, ?_, ?_⟩, ⟨?_, ?_⟩, fun j => ?_, ⟨?_, ?_⟩, fun w => ?_, fun w => ?_, fun x j w => ?_, ⟨fun x j w => ?_, fun x j y1 y2 y3 => ?_⟩⟩
      · rw [if_neg (by decide), if_pos c1, xg_pos p1, H1.1.2.2.1, xg_pos (by omega), l3, xb_some, n1, hk1, xg_pos (by omega), e_X7_hold, xg_pos p11, xg_pos (by omega), xg_pos (by omega), xg_pos p9, xg_pos (by omega), xg_pos p10, xg_pos (by omega), xb_some, Int.toNat_natCast i, Int.toNat_natCast a, xg_pos (by rw [fh _ _ (by omega)]; exact p4), xg_pos (by omega), fh 140 a (by omega), fh 130 9 (by omega), xg_pos (by omega), xg_pos (by omega), e_X5_claimShoals_149, if_neg (by decide), if_neg (by omega), xg_pos (by omega), nxt]
      · rw [if_neg (by omega), e_X12_claim_48, if_pos c1, xg_pos (Q1 (j := 44) (k := 21) (by decide)), xg_pos (by omega), xg_pos (by omega), xg_pos (Q1 (j := 43) (k := 18) (by decide)), xg_pos (by omega), Int.toNat_natCast kk, Int.toNat_natCast a, Int.toNat_natCast i, xg_pos (by omega), xg_pos (by omega), xg_pos (Q1 (j := 39) (k := 20) (by decide)), xg_pos (by omega), xg_pos (by omega), xg_pos (Q1 (j := 40) (k := 19) (by decide)), xg_pos (by omega), xg_pos (by omega), xg_pos (Q1 (j := 41) (k := 16) (by decide)), z49, l3' _ sH2, xb_some, hk1, xg_pos (by omega), xg_pos (by omega)]
      · exact H1.1.fr (fun x j w => by rw [zup_ne (by omega), zup_ne (by omega), fh _ _ (by omega)])
      · exact H1.2.1.fr (fun x j w => by
          unfold nqj at w
          rw [zup_ne (by omega), zup_ne (by omega), zup_ne (by omega), zup_ne (by omega), zup_ne (by omega)])
      · have e1 : ∀ j, j ≠ 9 → (zup (zup (zup (zup (zup h1 137 i (a : Int)) 135 i said) 136 i ((kk : Int) + lawV t a 3)) 140 a (h1 140 a + 1)) 130 9 (yari 8 (h1 130 9) (yari 5 1 (i : Int)))) 130 j = h1 130 j := fun j w => by rw [zup_ne (by omega), zup_ne (by omega), fh _ _ (by omega)]
        have e2 : ∀ j, (zup (zup (zup (zup (zup g1 21 kk (yari 8 (g1 21 kk) (yari 5 1 (i : Int)))) 18 a (g1 18 a + 1)) 20 i (a : Int)) 19 i said) 16 i ((kk : Int) + lawV t a 3)) 35 j = g1 35 j := fun j => by rw [zup_ne (by omega), zup_ne (by omega), zup_ne (by omega), zup_ne (by omega), zup_ne (by omega)]
        unfold dN
        rw [e1 6 (by omega), e1 7 (by omega), e1 14 (by omega), e1 13 (by omega), e2, e2, e2, e2]
        exact ⟨n1, n2, n3, n4, n5, n6, n7, n8⟩
      · exact D2.fr (fun x j w => by rw [zup_ne (by omega), zup_ne (by omega)]) (fun _ _ _ => rfl)
      · exact B2.fr (Nat.le_refl _) (Nat.le_refl _) (fun x j w => by
          rw [zup_ne (show ¬ (x = 130 ∧ j = 9) by omega)]
          by_cases y : x = 140 ∧ j = a
          · rw [y.1, y.2, zup_at, zup_at]
          · rw [zup_ne y, zup_ne y, fh _ _ (by omega)]) (fun x j w => by
          rw [zup_ne (by omega), zup_ne (by omega), zup_ne (by omega)]
          by_cases y : x = 18 ∧ j = a
          · rw [y.1, y.2, zup_at, zup_at]
          · rw [zup_ne y, zup_ne y, zup_ne (by omega)])
      · rw [zup_ne (by omega), zup_ne (by omega), fh _ _ (by omega)]; exact c8
      · rw [zup_ne (by omega), zup_ne (by omega), fh _ _ (by omega)]; exact c6
      · rw [zup_ne (by omega), zup_ne (by omega), zup_ne (by omega), zup_ne (by omega), zup_ne (by omega)]; exact e14 j
      · rw [zup_ne (by omega), zup_ne (by omega), zup_ne (by omega), zup_ne (by omega), zup_ne (by omega)]; exact e34
      · rw [zup_ne (by omega), zup_ne (by omega), zup_ne (by omega), zup_ne (by omega), zup_ne (by omega)]; exact e50
      · rw [zup_at, zup_ne (by omega), zup_ne (by omega), zup_ne (by omega), zup_ne (by omega), zup_at, c9, e21, w]
      · rw [zup_ne (by omega), zup_ne (by omega), zup_ne (by omega), zup_ne (by omega), zup_ne (by omega)]; exact k22 w
      · rw [zup_ne (by omega), zup_ne (by omega), fh _ _ (by omega)]; exact fc1 x j w
      · rw [zup_ne (by omega), zup_ne (by omega), zup_ne (by omega), zup_ne (by omega), zup_ne (by omega)]; exact fr1.1 x j w
      · rw [zup_ne (by omega), zup_ne (by omega), zup_ne (by omega), zup_ne (by omega), zup_ne (by omega)]; exact fr1.2 x j y1 y2 y3
    · by_cases c2 : lk = 1
      · obtain ⟨o1, -⟩ := or_b n4 (shF ⟨i, by omega⟩).1
        simp only at o1
        refine ⟨zup h1 130 7 (yari 8 (g1 35 49) (yari 5 1 (i : Int))), zup g1 35 49 (yari 8 (g1 35 49) (yari 5 1 (i : Int))), eC 1 _ ?_, eR _ ?_, ⟨?_, ?_, ?_, ?_, ?_⟩, ⟨?_, ?_⟩, fun j => ?_, ⟨?_, ?_⟩, fun w => ?_, fun w => ?_, fun x j w => ?_, ⟨fun x j w => ?_, fun x j y1 y2 y3 => ?_⟩⟩
        · rw [if_neg (by decide), if_neg c1, e_X5_claimShoals_149, if_neg (by decide), if_pos c2, xg_pos (by omega), nxt, n3]
        · rw [if_pos c2, e_X12_claim_48, if_neg c1]
        · exact H1.1.fr (fun x j w => zup_ne (by omega))
        · exact H1.2.1.fr (fun x j w => zup_ne (by unfold nqj at w; omega))
        · unfold dN
          rw [zup_at, zup_at, zup_ne (show ¬ (130 = 130 ∧ 6 = 7) by omega), zup_ne (show ¬ (130 = 130 ∧ 14 = 7) by omega), zup_ne (show ¬ (130 = 130 ∧ 13 = 7) by omega), zup_ne (show ¬ (35 = 35 ∧ 34 = 49) by omega), zup_ne (show ¬ (35 = 35 ∧ 50 = 49) by omega), zup_ne (show ¬ (35 = 35 ∧ 51 = 49) by omega)]
          exact ⟨n1, n2, rfl, o1, n5, n6, n7, n8⟩
        · exact H1.2.2.2.1.fr (fun x j w => zup_ne (by omega)) (fun x j w => zup_ne (by omega))
        · exact H1.2.2.2.2.fr (by omega) (Nat.le_refl _) (fun x j w => zup_ne (by omega)) (fun x j w => zup_ne (by omega))
        · rw [zup_ne (by omega)]; exact c8
        · rw [zup_ne (by omega)]; exact c6
        · rw [zup_ne (by omega)]; exact e14 j
        · rw [zup_ne (by omega)]; exact e34
        · rw [zup_ne (by omega)]; exact e50
        · rw [zup_ne (by omega), zup_ne (by omega), c9, e21, w]
        · rw [zup_ne (by omega)]; exact k22 w
        · rw [zup_ne (by omega)]; exact fc1 x j w
        · rw [zup_ne (by omega)]; exact fr1.1 x j w
        · rw [zup_ne (by omega)]; exact fr1.2 x j y1 y2 y3
      · refine ⟨h1, g1, eC 1 _ ?_, eR _ ?_, same⟩
        · rw [if_neg (by decide), if_neg c1, e_X5_claimShoals_149, if_neg (by decide), if_neg c2, xg_pos (by omega), nxt]
        · rw [if_neg c2, e_X12_claim_48, if_neg c1, z49]
end
section
/-! claims of one shoal and of all -/
theorem selF : ∀ x : Fin 64, yari 8 (x.val : Int) (x.val : Int) = (x.val : Int) ∧ yari 8 0 (x.val : Int) = (x.val : Int) := by decide +kernel
theorem sel_e {x : Int} (hx : 0 ≤ x ∧ x ≤ 63) : yari 8 x x = x ∧ yari 8 0 x = x := by
  have := selF ⟨x.toNat, by omega⟩
  simp only at this
  rw [show ((x.toNat : Nat) : Int) = x by omega] at this
  exact this
theorem skip_l {a bits said en : Int} : ∀ (m i n : Nat) (h : yH), i + m ≤ 6 → (∀ j : Nat, i ≤ j → j < i + m → yari 7 (yari 6 bits (j : Int)) 1 = 0) → xl_X5_claimShoals (n + m) 59 [130, a, bits, said, en, (i : Int)] h = xl_X5_claimShoals n 59 [130, a, bits, said, en, ((i + m : Nat) : Int)] h := by
  intro m
  induction m with
  | zero => intro i n h e1 e2; rfl
  | succ m ih =>
    intro i n h e1 e2
    rw [show n + (m + 1) = (n + m) + 1 by omega, e_X5_claimShoals_59, if_pos (by omega), if_pos (e2 i (Nat.le_refl _) (by omega)), xg_pos (by omega), show (i : Int) + 1 = ((i + 1 : Nat) : Int) by omega, ih (i + 1) n h (by omega) (fun j h1 h2 => e2 j (by omega) (by omega)), show i + 1 + m = i + (m + 1) by omega]
theorem end_59 {a bits said en : Int} {n : Nat} {h : yH} : xl_X5_claimShoals (n + 1) 59 [130, a, bits, said, en, ((6 : Nat) : Int)] h = some (0, h) := by
  rw [e_X5_claimShoals_59, if_neg (by omega)]
theorem one_bit {i j : Nat} (hi : i < 6) (hj : j < 6) : (j ≠ i → yari 7 (yari 6 (yari 5 1 (i : Int)) (j : Int)) 1 = 0) ∧ (j = i → ¬ yari 7 (yari 6 (yari 5 1 (i : Int)) (j : Int)) 1 = 0) := by
  obtain ⟨s1, s2, s3, s4⟩ := shF ⟨i, hi⟩
  have s5 := s4 ⟨j, hj⟩
  simp only at s1 s5
  have q := (bit_b s1).2 j hj
  refine ⟨fun w => ?_, fun w => ?_⟩
  · rcases bit_01 (yari 6 (yari 5 1 (i : Int)) (j : Int)) with e | e
    · exact e
    · rw [q, s5] at e
      exact absurd (of_decide_eq_true e) w
  · rw [decide_eq_true w] at s5
    rw [q.mpr s5]
    decide
theorem claim1 {b e s dd a i kk n m S q c : Nat} {t d p : Nat → Int} {K said : Int} {h g : yH} (H : dR b e s dd t d K S q c p h g) (hT : dT t d) (hn : 20 ≤ n) (hm : 20 ≤ m) (ha : (a : Int) < t 6) (hi : i < S) (h14 : 0 < g 14 i) (hsd : 0 ≤ said ∧ said ≤ 20) (hk : g 35 34 = (kk : Int)) (hk30 : kk < 30) (h8 : h 130 8 = hrs (bU t p) a) (hq : q ≤ 1000) :
    ∃ h2 g2, xl_X5_claimShoals n 59 [130, (a : Int), yari 5 1 (i : Int), said, (if said < lawV t a 0 then 0 else 1), 0] h = some (0, h2) ∧ f_X12_claim m [35, (kk : Int), (a : Int), (i : Int), said] g = some (0, g2) ∧ clR b e s dd t d K S q c p a kk h g h2 g2 := by
  have S6 : S ≤ 6 := H.2.2.2.1.1
  obtain ⟨n, rfl⟩ : ∃ n', n = ((n' + 1 + (5 - i)) + 1) + i := ⟨n - 7, by omega⟩
  obtain ⟨h2, g2, c1, c2, c3⟩ := claim2 (n := n + 1 + (5 - i)) (m := m) (bits := yari 5 1 (i : Int)) H hT (by omega) hm ha hi h14 hsd hk hk30 h8 ((one_bit (by omega) (by omega)).2 rfl) hq
  refine ⟨h2, g2, ?_, c2, c3⟩
  have s1 := skip_l (a := (a : Int)) (bits := yari 5 1 (i : Int)) (said := said) (en := if said < lawV t a 0 then 0 else 1) i 0 (n + 1 + (5 - i) + 1) h (by omega) (fun j h1 h2 => (one_bit (by omega) (by omega)).1 (by omega))
  rw [show ((0 : Nat) : Int) = 0 from rfl, Nat.zero_add] at s1
  have s2 := skip_l (a := (a : Int)) (bits := yari 5 1 (i : Int)) (said := said) (en := if said < lawV t a 0 then 0 else 1) (5 - i) (i + 1) (n + 1) h2 (by omega) (fun j h1 h2 => (one_bit (by omega) (by omega)).1 (by omega))
  rw [show i + 1 + (5 - i) = 6 by omega] at s2
  rw [s1, c1, s2, end_59]
/-- what claims of all shoals keep -/
def caR (b e s dd : Nat) (t d : Nat → Int) (K : Int) (S q c : Nat) (p : Nat → Int) (a kk : Nat) (bits : Int) (h g : yH) : Prop :=
  dR b e s dd t d K S q c p h g ∧ (h 130 8 = hrs (bU t p) a ∧ h 131 6 = bits) ∧ g 35 34 = (kk : Int) ∧ h 130 9 = g 21 kk ∧ (K < 1 → g 22 kk = hrs (bU t p) a)
theorem claimA_l {b e s dd a kk S c : Nat} {t d p : Nat → Int} {K said bits x2 : Int} (hT : dT t d) (ha : (a : Int) < t 6) (hsd : 0 ≤ said ∧ said ≤ 20) (hk30 : kk < 30) : ∀ (mm i n m q : Nat) (h g : yH), mm + i = 6 → mm + 10 ≤ n → mm + 22 ≤ m → q + mm ≤ 1000 → caR b e s dd t d K S q c p a kk bits h g →
    ∃ h2 g2, xl_X5_claimShoals n 59 [130, (a : Int), bits, said, (if said < lawV t a 0 then 0 else 1), (i : Int)] h = some (0, h2) ∧ xl_X12_does m 182 [35, (kk : Int), x2, (a : Int), said, ((min i S : Nat) : Int)] g = some (1, g2) ∧ caR b e s dd t d K S (q + mm) c p a kk bits h2 g2 ∧ g2 35 50 = g 35 50 ∧ frC h h2 ∧ frR kk g g2 := by
  intro mm
  induction mm with
  | zero =>
    intro i n m q h g e1 e2 e3 e4 H
    have S6 : S ≤ 6 := H.1.2.2.2.1.1
    obtain ⟨n, rfl⟩ : ∃ n', n = n' + 1 := ⟨n - 1, by omega⟩
    obtain ⟨m, rfl⟩ : ∃ m', m = m' + 1 := ⟨m - 1, by omega⟩
    refine ⟨h, g, ?_, ?_, H, rfl, frC.r, frR.r⟩
    · rw [show i = 6 by omega, end_59]
    · rw [show min i S = S by omega, e_X12_does_182, H.1.2.2.2.1.2.2.1, if_neg (by omega)]
  | succ mm ih =>
    intro i n m q h g e1 e2 e3 e4 H
    obtain ⟨S6, k2, k3, k4, k5⟩ := id H.1.2.2.2.1
    obtain ⟨b1, b2, b3⟩ := k5 i (by omega)
    obtain ⟨-, ⟨h8, h6⟩, hk, h9, h22⟩ := id H
    obtain ⟨n, rfl⟩ : ∃ n', n = n' + 1 := ⟨n - 1, by omega⟩
    have qb := (bit_b k4).2 i (by omega)
    rw [h6] at qb b1 k4
    by_cases cs6 : i < S
    · obtain ⟨m, rfl⟩ : ∃ m', m = m' + 1 := ⟨m - 1, by omega⟩
      by_cases c14 : 0 < g 14 i
      · have hbit : ¬ yari 7 (yari 6 bits (i : Int)) 1 = 0 := by
          rw [qb.mpr (b1.mpr ⟨cs6, c14⟩)]
          decide
        obtain ⟨h1, g1, r1, r2, r3⟩ := claim2 (n := n) (m := m) (bits := bits) H.1 hT (by omega) (by omega) ha cs6 c14 hsd hk hk30 h8 hbit (by omega)
        obtain ⟨d1, ⟨d2, d3⟩, d4, ⟨d5, d6⟩, d7, d8, d9, d10⟩ := r3
        have H1 : caR b e s dd t d K S (q + 1) c p a kk bits h1 g1 := ⟨d1, ⟨d2.trans h8, d3.trans h6⟩, d5.trans hk, d7 h9, fun w => by rw [d8 w, h22 w, (sel_e (hrs_b (H.1.W hT))).1]⟩
        obtain ⟨h2, g2, f1, f2, f3, f4, f5, f6⟩ := ih (i + 1) n m (q + 1) h1 g1 (by omega) (by omega) (by omega) (by omega) H1
        rw [show min (i + 1) S = i + 1 by omega] at f2
        refine ⟨h2, g2, r1.trans f1, ?_, ?_, f4.trans d6, d9.t f5, d10.t f6⟩
        · rw [show min i S = i by omega, e_X12_does_182, k3, if_pos (show (i : Int) < (S : Int) by omega), xg_pos (H.1.Q (j := 37) (k := 14) (by decide)), xg_pos (by omega), Int.toNat_natCast i, if_pos c14, r2, xb_some, xg_pos (by omega), show (i : Int) + 1 = ((i + 1 : Nat) : Int) by omega]
          exact f2
        · rw [show q + (mm + 1) = q + 1 + mm by omega]
          exact f3
      · have hbit : yari 7 (yari 6 bits (i : Int)) 1 = 0 := (bit_01 _).resolve_right (fun w => c14 (b1.mp (qb.mp w)).2)
        obtain ⟨h2, g2, f1, f2, f3, f4, f5, f6⟩ := ih (i + 1) n m q h g (by omega) (by omega) (by omega) (by omega) H
        rw [show min (i + 1) S = i + 1 by omega] at f2
        refine ⟨h2, g2, ?_, ?_, ⟨f3.1.fr (by omega) (Nat.le_refl _) (fun _ _ _ => rfl) (fun _ _ _ => rfl), f3.2⟩, f4, f5, f6⟩
        · rw [e_X5_claimShoals_59, if_pos (show (i : Int) < 6 by omega), if_pos hbit, xg_pos (by omega), show (i : Int) + 1 = ((i + 1 : Nat) : Int) by omega]
          exact f1
        · rw [show min i S = i by omega, e_X12_does_182, k3, if_pos (show (i : Int) < (S : Int) by omega), xg_pos (H.1.Q (j := 37) (k := 14) (by decide)), xg_pos (by omega), Int.toNat_natCast i, if_neg c14, xg_pos (by omega), show (i : Int) + 1 = ((i + 1 : Nat) : Int) by omega]
          exact f2
    · have hbit : yari 7 (yari 6 bits (i : Int)) 1 = 0 := (bit_01 _).resolve_right (fun w => cs6 (b1.mp (qb.mp w)).1)
      obtain ⟨h2, g2, f1, f2, f3, f4, f5, f6⟩ := ih (i + 1) n m q h g (by omega) (by omega) (by omega) (by omega) H
      rw [show min (i + 1) S = min i S by omega] at f2
      refine ⟨h2, g2, ?_, f2, ⟨f3.1.fr (by omega) (Nat.le_refl _) (fun _ _ _ => rfl) (fun _ _ _ => rfl), f3.2⟩, f4, f5, f6⟩
      rw [e_X5_claimShoals_59, if_pos (show (i : Int) < 6 by omega), if_pos hbit, xg_pos (by omega), show (i : Int) + 1 = ((i + 1 : Nat) : Int) by omega]
      exact f1
/-- the class begins a claim: who hears, nothing claimed yet -/
theorem claimC_e {b e s dd a n S q c : Nat} {t d p : Nat → Int} {K said bits : Int} {h g : yH} (H : dR b e s dd t d K S q c p h g) (hT : dT t d) (hn : 7 ≤ n) (ha : (a : Int) < t 6) : f_X5_claimShoals n [130, (a : Int), bits, said] h = xl_X5_claimShoals n 59 [130, (a : Int), bits, said, (if said < lawV t a 0 then 0 else 1), 0] (zup (zup h 130 8 (hrs (bU t p) a)) 130 9 0) := by
  obtain ⟨w1, w2, w3, w4, w5⟩ := H.bp hT ha
  obtain ⟨-, k1, k2, k3, k4, k5, -⟩ := id H.1
  have e6 : ((b : Int) + 6).toNat = b + 6 := by omega
  have H1 : dC b e t d (zup (zup h 130 8 (hrs (bU t p) a)) 130 9 0) := H.1.fr (fun x j w => by rw [zup_ne (by omega), zup_ne (by omega)])
  have l0 := lawC_e (n := n) (w := 0) H1.2.2.2.2.1 H1.2.2.2.2.2.1 hT.1 ha (by decide)
  rw [show ((0 : Nat) : Int) = 0 from rfl] at l0
  rw [e_X5_claimShoals, k2, Int.toNat_natCast b, xg_pos (by omega), xg_pos k1.2.1, xg_pos (by omega), xg_pos (by omega), xg_pos k5.2.2.2.2.2.1, xg_pos (by omega), xg_pos k1.2.1, Int.toNat_natCast a, e6, H.hp a ha, (k4.2.2.2.2.2.2.2.2.2.2 a ha).2.1, hearersR_e hn H.1 (H.W hT) H.hp ha w3, xb_some, k2, xg_pos (by omega), l0, xb_some]
  by_cases c0 : said < lawV t a 0
  · rw [if_pos c0, if_pos c0]
  · rw [if_neg c0, if_neg c0]
end
section
/-! rowing, splitting, netting on both sides -/
theorem there2 {b e s dd : Nat} {t d : Nat → Int} {K : Int} {S q c : Nat} {p : Nat → Int} {h g : yH} {n m i : Nat} (H : dR b e s dd t d K S q c p h g) (hi : i < 6) :
    f_X7_isThere n [131, (i : Int)] h = some (if i < S ∧ 0 < g 14 i then 1 else 0, h) ∧ f_X12_isThere m [35, (i : Int)] g = some (if i < S ∧ 0 < g 14 i then 1 else 0, g) := by
  obtain ⟨S6, k2, k3, k4, k5⟩ := id H.2.2.2.1
  obtain ⟨b1, b2, b3⟩ := k5 i hi
  have qb := (bit_b k4).2 i hi
  constructor
  · rw [e_X7_isThere, if_neg (by omega), if_pos (by omega)]
    by_cases w : i < S ∧ 0 < g 14 i
    · rw [if_pos w, if_pos (qb.mpr (b1.mpr w))]
    · rw [if_neg w, if_neg (fun v => w (b1.mp (qb.mp v)))]
  · rw [e_X12_isThere, k3, xg_pos (by omega)]
    by_cases w : i < S
    · rw [in_t (by omega), xb_some, if_neg (by decide), xg_pos (H.Q (j := 37) (k := 14) (by decide)), xg_pos (by omega), Int.toNat_natCast]
      by_cases w2 : 0 < g 14 i
      · rw [if_pos w2, if_pos ⟨w, w2⟩]
      · rw [if_neg w2, if_neg (fun v => w2 v.2)]
    · rw [in_f (by omega), xb_some, if_pos rfl, if_neg (fun v => w v.1)]
theorem isBoatR_e {b e s dd : Nat} {t d : Nat → Int} {K x : Int} {S q c : Nat} {p : Nat → Int} {h g : yH} {m : Nat} (H : dR b e s dd t d K S q c p h g) (hT : dT t d) : f_X12_isBoat m [35, x] g = some (if 0 ≤ x ∧ x < t 6 then 1 else 0, g) := by
  have w6 := hT.1.wd.2.2.2.2
  have h28 : g 35 28 = t 6 := by
    rw [H.2.1.1.2.2.2.2.2.2.1, bU_n (j := 6) (by omega)]
  rw [e_X12_isBoat, h28, xg_pos (by omega)]
  by_cases w : 0 ≤ x ∧ x < t 6
  · rw [in_t (by omega), xb_some, xg_pos (by decide), if_pos w]
  · rw [in_f (by omega), xb_some, xg_pos (by decide), if_neg w]
/-- a boat stands elsewhere -/
theorem dR.row {b e s dd : Nat} {t d : Nat → Int} {K : Int} {S q c : Nat} {p : Nat → Int} {h g : yH} {a : Nat} {x : Int} (H : dR b e s dd t d K S q c p h g) (ha : a < 6) (hx : 0 ≤ x ∧ x ≤ 63) (hx2 : x < t 0 * t 1) : dR b e s dd t d K S q c (tU p a x) (zup h 138 a x) (zup g 10 a x) := by
  obtain ⟨k1, ⟨k2, ⟨k6, k7⟩, k10, k8⟩, k3, k4, k5, k9⟩ := H
  refine ⟨k1.fr (fun x j w => zup_ne (by omega)), ⟨?_, ⟨k6, by rw [zup_ne (by omega)]; exact k7⟩, by rw [zup_ne (by omega)]; exact k10, fun j hj => by rw [zup_ne (by omega)]; exact k8 j hj⟩, ?_, k4.fr (fun x j w => zup_ne (by omega)) (fun x j w => zup_ne (by omega)), ?_, fun i hi => ?_⟩
  · rw [bU_up ha]
    exact k2.cell ha
  · unfold dN
    rw [zup_ne (by omega), zup_ne (by omega), zup_ne (by omega), zup_ne (by omega), zup_ne (by omega), zup_ne (by omega), zup_ne (by omega), zup_ne (by omega)]
    exact k3
  · intro i hi
    by_cases w : i = a
    · rw [w, tU_at]; exact hx
    · rw [tU_ne w]; exact k5 i hi
  · obtain ⟨⟨a1, a2⟩, ⟨a3, a4, a5⟩, a6, a7, a8⟩ := k9 i hi
    rw [zup_ne (show ¬ (139 = 138 ∧ i = a) by omega), zup_ne (show ¬ (140 = 138 ∧ i = a) by omega), zup_ne (show ¬ (17 = 10 ∧ i = a) by omega), zup_ne (show ¬ (18 = 10 ∧ i = a) by omega)]
    refine ⟨?_, ⟨a3, a4, a5⟩, a6, a7, a8⟩
    by_cases w : i = a
    · rw [w, zup_at, tU_at]; exact ⟨rfl, hx2⟩
    · rw [zup_ne (by omega), tU_ne w]; exact ⟨a1, a2⟩
theorem row2 {b e s dd : Nat} {t d : Nat → Int} {K : Int} {S q c : Nat} {p : Nat → Int} {h g : yH} {n m a : Nat} {sd : Int} (H : dR b e s dd t d K S q c p h g) (hT : dT t d) (ha : (a : Int) < t 6) (hs : 0 ≤ sd ∧ sd ≤ 3) :
    f_X5_rowBoat n [130, (a : Int), sd] h = some (if besV (t 0) (t 1) (p a) sd = -1 then 0 else 1, if besV (t 0) (t 1) (p a) sd = -1 then h else zup h 138 a (besV (t 0) (t 1) (p a) sd)) ∧ f_X12_beside m [35, g 10 a, sd] g = some (besV (t 0) (t 1) (p a) sd, g) ∧ (besV (t 0) (t 1) (p a) sd = -1 ∨ ((0 ≤ besV (t 0) (t 1) (p a) sd ∧ besV (t 0) (t 1) (p a) sd ≤ 63) ∧ besV (t 0) (t 1) (p a) sd < t 0 * t 1)) := by
  obtain ⟨w1, w2, w3, w4, w5⟩ := H.bp hT ha
  obtain ⟨-, k1, k2, k3, k4, k5, -⟩ := id H.1
  have z0 : bU t p 0 = t 0 := bU_n (by omega)
  have z1 : bU t p 1 = t 1 := bU_n (by omega)
  have v := H.2.1.1
  refine ⟨?_, ?_, ?_⟩
  · rw [e_X5_rowBoat, k2, xg_pos (by omega), xg_pos k1.2.1, xg_pos (by omega), Int.toNat_natCast, H.hp a ha, besC_e k4.1 k4.2.1 hT.1.1 hT.1.2.1 ⟨w4.1, w5⟩, xb_some]
    by_cases w : besV (t 0) (t 1) (p a) sd = -1
    · rw [if_pos w, if_pos w, if_pos w]
    · rw [if_neg w, if_neg w, if_neg w, xg_pos k1.2.1, xg_pos (by omega)]
  · rw [w1]
    exact besR_e (v.2.2.1.trans z0) (v.2.2.2.1.trans z1) hT.1.1 hT.1.2.1 ⟨w4.1, w5⟩ hs
  · rcases besV_b (s := sd) hT.1.1 hT.1.2.1 ⟨w4.1, w5⟩ with w | w
    · exact Or.inl w
    · exact Or.inr ⟨pW_63 hT.1.1 hT.1.2.1 w, w.2⟩
theorem halfF : ∀ f : Fin 100, 2 ≤ f.val → 1 ≤ yari 3 (f.val : Int) 2 ∧ yari 3 (f.val : Int) 2 ≤ (f.val : Int) - 1 := by decide +kernel
theorem half_b {f : Int} (h : 2 ≤ f ∧ f ≤ 99) : 1 ≤ yari 3 f 2 ∧ yari 3 f 2 ≤ f - 1 := by
  have := halfF ⟨f.toNat, by omega⟩ (by simp only; omega)
  simp only at this
  rw [show ((f.toNat : Nat) : Int) = f by omega] at this
  exact this
theorem backF : ∀ f : Fin 4, 0 ≤ yari 4 ((f.val : Int) + 2) 4 ∧ yari 4 ((f.val : Int) + 2) 4 ≤ 4 := by decide +kernel
def bck (x : Int) : Int := if x = 4 then 4 else yari 4 (x + 2) 4
theorem bck_b {x : Int} (h : 0 ≤ x ∧ x ≤ 4) : 0 ≤ bck x ∧ bck x ≤ 4 := by
  unfold bck
  by_cases c : x = 4
  · rw [if_pos c]; decide
  · rw [if_neg c]
    have := backF ⟨x.toNat, by omega⟩
    simp only at this
    rw [show ((x.toNat : Nat) : Int) = x by omega] at this
    exact this
/-- a shoal is split -/
def spG (S i : Nat) (x y : Int) (g : yH) : yH := zup (zup (zup (zup (zup g 14 i (g 14 i - x)) 13 S (g 13 i)) 14 S x) 15 S y) 35 35 ((S : Int) + 1)
theorem spG_ne {S i : Nat} {x y : Int} {g : yH} {a j : Nat} (w : ¬ (a = 14 ∧ j = i) ∧ ¬ ((a = 13 ∨ a = 14 ∨ a = 15) ∧ j = S) ∧ ¬ (a = 35 ∧ j = 35)) : spG S i x y g a j = g a j := by
  unfold spG
  rw [zup_ne (by omega), zup_ne (by omega), zup_ne (by omega), zup_ne (by omega), zup_ne (by omega)]
theorem dS.split {M B : Int} {S i : Nat} {x y : Int} {h g : yH} (H : dS M B S h g) (hi : i < S) (hS : S < 6) (h14 : 2 ≤ g 14 i) (hx : 1 ≤ x ∧ x ≤ g 14 i - 1) (hy : 0 ≤ y ∧ y ≤ 4) : dS M B (S + 1) (adH S (h 132 i) x y (zup h 133 i (h 133 i - x))) (spG S i x y g) := by
  obtain ⟨k1, k2, k3, k4, k5⟩ := H
  obtain ⟨v1, v2, v3, v4, v5, v6, v7, v8⟩ := adH_v (S := S) (c := h 132 i) (f := x) (d := y) (h := zup h 133 i (h 133 i - x))
  have e6 : (zup h 133 i (h 133 i - x)) 131 6 = h 131 6 := zup_ne (by omega)
  obtain ⟨o1, o2⟩ := bit_add k4 hS
  obtain ⟨c1, c2, -⟩ := k5 i (by omega)
  obtain ⟨⟨d1, d2, d3, d4, d5, d6⟩, d7⟩ := c2 hi
  obtain ⟨f1, f2, f3, f4, f5, f6⟩ := d7 (by omega)
  rw [e6] at v2
  have g35 : spG S i x y g 35 35 = (S : Int) + 1 := zup_at _ _ _ _
  have gS : spG S i x y g 13 S = g 13 i ∧ spG S i x y g 14 S = x ∧ spG S i x y g 15 S = y := by
    unfold spG
    refine ⟨?_, ?_, ?_⟩
    · rw [zup_ne (by omega), zup_ne (by omega), zup_ne (by omega), zup_at]
    · rw [zup_ne (by omega), zup_ne (by omega), zup_at]
    · rw [zup_ne (by omega), zup_at]
  have gi : spG S i x y g 14 i = g 14 i - x := by
    unfold spG
    rw [zup_ne (by omega), zup_ne (by omega), zup_ne (by omega), zup_ne (by omega), zup_at]
  refine ⟨by omega, by rw [v1]; omega, by rw [g35]; omega, by rw [v2]; exact o1, fun j hj => ?_⟩
  obtain ⟨a1, a2, a3⟩ := k5 j hj
  have b16 : spG S i x y g 16 j = g 16 j := spG_ne (by omega)
  have b19 : spG S i x y g 19 j = g 19 j := spG_ne (by omega)
  have b20 : spG S i x y g 20 j = g 20 j := spG_ne (by omega)
  by_cases q : j = S
  · subst q
    obtain ⟨n1, n2, n3⟩ := a3 (Nat.le_refl _)
    refine ⟨?_, fun _ => ?_, fun w => by omega⟩
    · rw [v2, o2 j hj, gS.2.1]
      exact ⟨fun _ => ⟨by omega, by omega⟩, fun _ => Or.inr rfl⟩
    · unfold sI
      rw [gS.1, gS.2.1, gS.2.2, b16, b19, b20, n1, n2, n3, v3, v4, v5, v6, v7, v8, f1]
      have hB : 0 ≤ B := by omega
      refine ⟨⟨d1, ⟨by omega, by omega⟩, hy, ⟨by decide, by decide⟩, ⟨by decide, by decide⟩, by decide, by omega⟩, fun _ => ⟨rfl, rfl, rfl, rfl, rfl, rfl⟩⟩
  · have b13 : spG S i x y g 13 j = g 13 j := spG_ne (by omega)
    have b15 : spG S i x y g 15 j = g 15 j := spG_ne (by omega)
    have cc : ∀ z, z ≠ 133 → 132 ≤ z → adH S (h 132 i) x y (zup h 133 i (h 133 i - x)) z j = h z j := fun z w w2 => by rw [adH_fr (by omega), zup_ne (by omega)]
    by_cases r : j = i
    · subst r
      refine ⟨?_, fun _ => ?_, fun w => by omega⟩
      · rw [v2, o2 j hj, gi, a1]
        constructor
        · intro _; exact ⟨by omega, by omega⟩
        · intro _; exact Or.inl ⟨hi, by omega⟩
      · unfold sI
        rw [b13, gi, b15, b16, b19, b20, cc 132 (by omega) (by omega), cc 134 (by omega) (by omega), cc 135 (by omega) (by omega), cc 136 (by omega) (by omega), cc 137 (by omega) (by omega), adH_fr (show ¬ (133 = 131 ∧ (j = 6 ∨ j = 7)) ∧ ¬ ((133 = 132 ∨ 133 = 133 ∨ 133 = 134 ∨ 133 = 135 ∨ 133 = 136 ∨ 133 = 137) ∧ j = S) by omega), zup_at, f2]
        exact ⟨⟨d1, ⟨by omega, by omega⟩, d3, d4, d5, d6⟩, fun _ => ⟨f1, rfl, f3, f4, f5, f6⟩⟩
    · have b14 : spG S i x y g 14 j = g 14 j := spG_ne (by omega)
      refine ⟨?_, fun w => ?_, fun w => ?_⟩
      · rw [v2, o2 j hj, b14, a1]
        constructor
        · rintro (u | u)
          · exact ⟨by omega, u.2⟩
          · omega
        · intro u; exact Or.inl ⟨by omega, u.2⟩
      · exact (a2 (by omega)).fr ⟨b13, b14, b15, b19, b16, b20⟩ ⟨cc 132 (by omega) (by omega), by rw [adH_fr (by omega), zup_ne (by omega)], cc 134 (by omega) (by omega), cc 135 (by omega) (by omega), cc 136 (by omega) (by omega), cc 137 (by omega) (by omega)⟩
      · rw [b20, b19, b16]
        exact a3 (by omega)
theorem dR.split {b e s dd : Nat} {t d : Nat → Int} {K : Int} {S q c : Nat} {p : Nat → Int} {h g : yH} {i : Nat} {x y : Int} (H : dR b e s dd t d K S q c p h g) (hi : i < S) (hS : S < 6) (h14 : 2 ≤ g 14 i) (hx : 1 ≤ x ∧ x ≤ g 14 i - 1) (hy : 0 ≤ y ∧ y ≤ 4) : dR b e s dd t d K (S + 1) q c p (adH S (h 132 i) x y (zup h 133 i (h 133 i - x))) (spG S i x y g) := by
  obtain ⟨k1, k2, k3, k4, k5⟩ := H
  have fh : ∀ a j, ¬ (a = 131 ∧ (j = 6 ∨ j = 7)) → ¬ (132 ≤ a ∧ a ≤ 137) → adH S (h 132 i) x y (zup h 133 i (h 133 i - x)) a j = h a j := fun a j w1 w2 => by rw [adH_fr (by omega), zup_ne (by omega)]
  have fg : ∀ a j, ¬ (13 ≤ a ∧ a ≤ 15) → ¬ (a = 35 ∧ j = 35) → spG S i x y g a j = g a j := fun a j w1 w2 => spG_ne (by omega)
  refine ⟨k1.fr (fun a j w => fh a j (by omega) (by omega)), k2.fr (fun a j w => fg a j (by omega) (by unfold nqj at w; omega)), ?_, k4.split hi hS h14 hx hy, k5.fr (Nat.le_refl _) (Nat.le_refl _) (fun a j w => fh a j (by omega) (by omega)) (fun a j w => fg a j (by omega) (by omega))⟩
  unfold dN
  rw [fh _ _ (by omega) (by omega), fh _ _ (by omega) (by omega), fh _ _ (by omega) (by omega), fh _ _ (by omega) (by omega), fg _ _ (by omega) (by omega), fg _ _ (by omega) (by omega), fg _ _ (by omega) (by omega), fg _ _ (by omega) (by omega)]
  exact k3
end
section
/-! netting on both sides -/
theorem split2 {b e s dd : Nat} {t d : Nat → Int} {K : Int} {S q c : Nat} {p : Nat → Int} {h g : yH} {n m a i : Nat} (H : dR b e s dd t d K S q c p h g) (hT : dT t d) (ha : (a : Int) < t 6) (hi : i < S) (h14 : 0 < g 14 i) :
    ∃ v h2 g2 S2, f_X5_splitShoal n [130, (a : Int), (i : Int)] h = some (v, h2) ∧ f_X12_splits m [35, (a : Int), (i : Int)] g = some (v, g2) ∧ (v = 0 ∨ v = 1) ∧ dR b e s dd t d K S2 q c p h2 g2 ∧ (g2 35 34 = g 35 34 ∧ g2 35 50 = g 35 50) ∧ frC h h2 ∧ (∀ x j, x ≤ 12 ∨ (16 ≤ x ∧ x ≤ 34) → g2 x j = g x j) := by
  obtain ⟨S6, k2, k3, k4, k5⟩ := id H.2.2.2.1
  obtain ⟨-, i2, -⟩ := k5 i (by omega)
  obtain ⟨⟨d1, d2, d3, d4, d5, d6⟩, d7⟩ := i2 hi
  obtain ⟨f1, f2, f3, f4, f5, f6⟩ := d7 h14
  obtain ⟨n1, -⟩ := id H.2.2.1
  obtain ⟨p1, p2, p3, p4, p5, p6, p7, p8, p9, p10, p11⟩ := id H.1.2.1
  have hq := H.2.1.1.1.2.2.2
  obtain ⟨t1, t2⟩ := there2 (n := n) (m := m) H (show i < 6 by omega)
  rw [if_pos ⟨hi, h14⟩] at t1 t2
  have no : f_X5_splitShoal n [130, (a : Int), (i : Int)] h = some (0, h) → f_X12_splits m [35, (a : Int), (i : Int)] g = some (0, g) → ∃ v h2 g2 S2, f_X5_splitShoal n [130, (a : Int), (i : Int)] h = some (v, h2) ∧ f_X12_splits m [35, (a : Int), (i : Int)] g = some (v, g2) ∧ (v = 0 ∨ v = 1) ∧ dR b e s dd t d K S2 q c p h2 g2 ∧ (g2 35 34 = g 35 34 ∧ g2 35 50 = g 35 50) ∧ frC h h2 ∧ (∀ x j, x ≤ 12 ∨ (16 ≤ x ∧ x ≤ 34) → g2 x j = g x j) := fun e1 e2 => ⟨0, h, g, S, e1, e2, Or.inl rfl, H, ⟨rfl, rfl⟩, frC.r, fun _ _ _ => rfl⟩
  have Q : ∀ {j : Nat} {k : Int}, (j, k) ∈ rQL → g 35 j = k := fun hm => H.Q hm
  by_cases c1 : hdN (g 16 i) (g 20 i) (g 35 34) = (a : Int)
  · by_cases c2 : g 14 i < 2
    · refine no ?_ ?_
      · rw [e_X5_splitShoal, xg_pos p1, holderAt_e H.1.2.1 (by omega), xb_some, f5, f6, n1, if_pos c1, xg_pos p1, e_X7_canSplit, xg_pos p7, xg_pos (by omega), Int.toNat_natCast i, f2, if_pos c2, xb_some, if_pos rfl]
      · rw [e_X12_splits, t2, xb_some, if_neg (by decide), holderNow_e hq (by omega), xb_some, if_pos c1, xg_pos (Q (j := 37) (k := 14) (by decide)), xg_pos (by omega), Int.toNat_natCast i, if_pos c2]
    · by_cases c3 : S < 6
      · have hb := half_b (f := g 14 i) (by omega)
        have kb := bck_b d3
        have R := H.split (x := yari 3 (g 14 i) 2) (y := bck (g 15 i)) hi c3 (by omega) hb kb
        rw [f2] at R
        have eC : f_X7_halve n [131, (i : Int)] h = some (0, adH S (h 132 i) (yari 3 (g 14 i) 2) (bck (g 15 i)) (zup h 133 i (g 14 i - yari 3 (g 14 i) 2))) := by
          have key : ∀ y0 : Int, xq_X7_halve_33 n [131, (i : Int), yari 3 (g 14 i) 2, y0] h = some (0, adH S (h 132 i) (yari 3 (g 14 i) 2) y0 (zup h 133 i (g 14 i - yari 3 (g 14 i) 2))) := by
            intro y0
            rw [e_X7_halve_33, xg_pos p7, xg_pos (by omega), Int.toNat_natCast i, f2, xg_pos (by omega), xg_pos (by omega), xg_pos p6, xg_pos (by omega), add_e (S := S) (H.1.2.1.fr (fun x j w => zup_ne (by omega))) (by rw [zup_ne (by omega)]; exact k2) c3, xb_some]
          rw [e_X7_halve, xg_pos p7, xg_pos (by omega), xg_pos p8, xg_pos (by omega), Int.toNat_natCast i, f3, f2]
          unfold bck
          by_cases c4 : g 15 i = 4
          · rw [if_pos c4, if_pos c4, key]
          · rw [if_neg c4, if_neg c4, xg_pos p8, xg_pos (by omega), xg_pos (by omega), key]
        refine ⟨1, adH S (h 132 i) (yari 3 (g 14 i) 2) (bck (g 15 i)) (zup h 133 i (g 14 i - yari 3 (g 14 i) 2)), spG S i (yari 3 (g 14 i) 2) (bck (g 15 i)) g, S + 1, ?_, ?_, Or.inr rfl, R, ⟨spG_ne (by omega), spG_ne (by omega)⟩, fun x j w => by rw [adH_fr (by omega), zup_ne (by omega)], fun x j w => spG_ne (by omega)⟩
        · rw [e_X5_splitShoal, xg_pos p1, holderAt_e H.1.2.1 (by omega), xb_some, f5, f6, n1, if_pos c1, xg_pos p1, e_X7_canSplit, xg_pos p7, xg_pos (by omega), Int.toNat_natCast i, f2, if_neg c2, k2, if_pos (show (S : Int) < 6 by omega), xb_some, if_neg (by decide), xg_pos p1, eC, xb_some]
        · rw [e_X12_splits, t2, xb_some, if_neg (by decide), holderNow_e hq (by omega), xb_some, if_pos c1, xg_pos (Q (j := 37) (k := 14) (by decide)), xg_pos (by omega), Int.toNat_natCast i, if_neg c2, k3, if_neg (show ¬ (S : Int) = 6 by omega), xg_pos (Q (j := 37) (k := 14) (by decide)), xg_pos (by omega), xg_pos (Q (j := 37) (k := 14) (by decide)), xg_pos (by omega), xg_pos (by omega), xg_pos (by omega), xg_pos (Q (j := 36) (k := 13) (by decide)), xg_pos (Q (j := 36) (k := 13) (by decide)), xg_pos (by omega), xg_pos (by omega), xg_pos (Q (j := 37) (k := 14) (by decide)), xg_pos (by omega), xg_pos (Q (j := 38) (k := 15) (by decide)), xg_pos (Q (j := 38) (k := 15) (by decide)), xg_pos (by omega), Int.toNat_natCast S]
          unfold spG bck
          by_cases c4 : g 15 i = 4
          · rw [if_pos c4, if_pos c4, xg_pos (by omega), xg_pos (by omega), xg_pos (by omega)]
          · rw [if_neg c4, if_neg c4, xg_pos (Q (j := 38) (k := 15) (by decide)), xg_pos (by omega), xg_pos (by omega), xg_pos (by omega), xg_pos (by omega), xg_pos (by omega)]
      · refine no ?_ ?_
        · rw [e_X5_splitShoal, xg_pos p1, holderAt_e H.1.2.1 (by omega), xb_some, f5, f6, n1, if_pos c1, xg_pos p1, e_X7_canSplit, xg_pos p7, xg_pos (by omega), Int.toNat_natCast i, f2, if_neg c2, k2, if_neg (show ¬ (S : Int) < 6 by omega), xb_some, if_pos rfl]
        · rw [e_X12_splits, t2, xb_some, if_neg (by decide), holderNow_e hq (by omega), xb_some, if_pos c1, xg_pos (Q (j := 37) (k := 14) (by decide)), xg_pos (by omega), Int.toNat_natCast i, if_neg c2, k3, if_pos (show (S : Int) = 6 by omega)]
  · refine no ?_ ?_
    · rw [e_X5_splitShoal, xg_pos p1, holderAt_e H.1.2.1 (by omega), xb_some, f5, f6, n1, if_neg c1]
    · rw [e_X12_splits, t2, xb_some, if_neg (by decide), holderNow_e hq (by omega), xb_some, if_neg c1]
theorem mulF_b {f sy : Int} (hf : 0 ≤ f ∧ f ≤ 99) (hs : 0 ≤ sy ∧ sy ≤ 20) : 0 ≤ f * sy ∧ f * sy ≤ 1980 := by
  have a1 := Int.mul_nonneg hf.1 hs.1
  have a2 := Int.mul_le_mul hf.2 hs.2 hs.1 (show (0 : Int) ≤ 99 by decide)
  omega
theorem div_b {f sy ne : Int} (hf : 0 ≤ f ∧ f ≤ 99) (hs : 0 ≤ sy ∧ sy ≤ 20) (hn : 1 ≤ ne ∧ ne ≤ 9) : 0 ≤ yari 3 (f * sy) (sy + ne) ∧ yari 3 (f * sy) (sy + ne) ≤ f := by
  have mb := mulF_b hf hs
  unfold yari
  show 0 ≤ (Int32.ofInt (f * sy) / Int32.ofInt (sy + ne)).toInt ∧ (Int32.ofInt (f * sy) / Int32.ofInt (sy + ne)).toInt ≤ f
  have q1 := Int.ediv_nonneg mb.1 (show 0 ≤ sy + ne by omega)
  have q2 : f * sy / (sy + ne) ≤ f := Int.ediv_le_of_le_mul (by omega) (Int.mul_le_mul_of_nonneg_left (by omega) hf.1)
  rw [Int32.toInt_div, Int32.toInt_ofInt_of_le (by omega) (by omega), Int32.toInt_ofInt_of_le (by omega) (by omega), Int.tdiv_eq_ediv_of_nonneg mb.1, Int.bmod_eq_of_le (by omega) (by omega)]
  exact ⟨q1, q2⟩
/-- what another has of it -/
def shr (hol a f sy ne : Int) : Int := if hol = -1 ∨ hol = a then 0 else yari 3 (f * sy) (sy + ne)
theorem shr_b {hol a f sy ne : Int} (hf : 0 ≤ f ∧ f ≤ 99) (hs : 0 ≤ sy ∧ sy ≤ 20) (hn : 1 ≤ ne ∧ ne ≤ 9) : 0 ≤ shr hol a f sy ne ∧ shr hol a f sy ne ≤ f := by
  unfold shr
  by_cases c : hol = -1 ∨ hol = a
  · rw [if_pos c]; exact ⟨Int.le_refl _, hf.1⟩
  · rw [if_neg c]
    exact div_b hf hs hn
theorem dS.gone {M B : Int} {S i : Nat} {h g : yH} (H : dS M B S h g) (hi : i < S) : dS M B S (zup h 131 6 (clr (h 131 6) i)) (zup g 14 i 0) := by
  obtain ⟨k1, k2, k3, k4, k5⟩ := H
  obtain ⟨c1, c2⟩ := clr_b k4 (show i < 6 by omega)
  refine ⟨k1, by rw [zup_ne (by omega)]; exact k2, by rw [zup_ne (by omega)]; exact k3, by rw [zup_at]; exact c1, fun j hj => ?_⟩
  obtain ⟨a1, a2, a3⟩ := k5 j hj
  rw [zup_at, c2 j hj, zup_ne (show ¬ (20 = 14 ∧ j = i) by omega), zup_ne (show ¬ (19 = 14 ∧ j = i) by omega), zup_ne (show ¬ (16 = 14 ∧ j = i) by omega)]
  refine ⟨?_, fun w => ?_, a3⟩
  · by_cases q : j = i
    · rw [q, zup_at, decide_eq_false (fun w => w rfl), Bool.and_false]
      exact ⟨fun w => (by cases w), fun w => by omega⟩
    · rw [zup_ne (by omega), decide_eq_true q, Bool.and_true]
      exact a1
  · by_cases q : j = i
    · subst q
      obtain ⟨⟨d1, d2, d3, d4, d5, d6⟩, d7⟩ := a2 w
      unfold sI
      rw [zup_at, zup_ne (show ¬ (13 = 14 ∧ j = j) by omega), zup_ne (show ¬ (15 = 14 ∧ j = j) by omega), zup_ne (show ¬ (19 = 14 ∧ j = j) by omega), zup_ne (show ¬ (16 = 14 ∧ j = j) by omega), zup_ne (show ¬ (20 = 14 ∧ j = j) by omega)]
      exact ⟨⟨d1, ⟨by decide, by decide⟩, d3, d4, d5, d6⟩, fun w => by omega⟩
    · exact (a2 w).fr ⟨zup_ne (by omega), zup_ne (by omega), zup_ne (by omega), zup_ne (by omega), zup_ne (by omega), zup_ne (by omega)⟩ ⟨zup_ne (by omega), zup_ne (by omega), zup_ne (by omega), zup_ne (by omega), zup_ne (by omega), zup_ne (by omega)⟩
end
section
/-! netting, gone on with -/
theorem foa_e {n a b i : Nat} {t4 : Int} {h : yH} (hp : cPr h) (h0 : h 130 0 = (b : Int)) (h4 : h b 4 = t4) (hi : i < 6) (hf : 0 ≤ h 133 i ∧ h 133 i ≤ 99) (hs : 0 ≤ h 135 i ∧ h 135 i ≤ 20) (hn : 1 ≤ t4 ∧ t4 ≤ 9) : f_X5_fishOfAnother n [130, (a : Int), (i : Int)] h = some (shr (h 130 11) (a : Int) (h 133 i) (h 135 i) t4, h) := by
  have mb := mulF_b hf hs
  obtain ⟨p1, p2, p3, p4, p5, p6, p7, p8, p9, p10, p11⟩ := hp
  rw [e_X5_fishOfAnother]
  unfold shr
  by_cases c1 : h 130 11 = -1
  · rw [if_pos c1, if_pos (Or.inl c1)]
  · rw [if_neg c1]
    by_cases c2 : h 130 11 = (a : Int)
    · rw [if_pos c2, if_pos (Or.inr c2)]
    · rw [if_neg c2, if_neg (show ¬ (h 130 11 = -1 ∨ h 130 11 = (a : Int)) by omega), xg_pos p1, xg_pos p9, xg_pos (by omega), h0, Int.toNat_natCast b, Int.toNat_natCast i, h4, xg_pos (by omega), xg_pos (by omega), if_neg (by omega), xg_pos p1, xg_pos p7, xg_pos (by omega), xg_pos (by omega), xg_pos (by omega)]
theorem dB.add {M B : Int} {q c y j : Nat} {p : Nat → Int} {x : Int} {h g : yH} (H : dB M B q c p h g) (hj : (j : Int) < B) (hx : 0 ≤ x ∧ x ≤ (y : Int)) : dB M B q (c + y) p (zup h 139 j (h 139 j + x)) (zup g 17 j (g 17 j + x)) := by
  refine ⟨H.1, fun i hi => ?_⟩
  obtain ⟨⟨a1, a2⟩, ⟨a3, a4, a5⟩, a6, a7, a8⟩ := H.2 i hi
  rw [zup_ne (show ¬ (138 = 139 ∧ i = j) by omega), zup_ne (show ¬ (140 = 139 ∧ i = j) by omega), zup_ne (show ¬ (18 = 17 ∧ i = j) by omega)]
  refine ⟨⟨a1, a2⟩, ?_, a6, a7, a8⟩
  by_cases w : i = j
  · subst w
    rw [zup_at, zup_at]
    omega
  · rw [zup_ne (by omega), zup_ne (by omega)]
    omega
theorem rem_e {n i : Nat} {h : yH} : f_X7_remove n [131, (i : Int)] h = some (0, zup h 131 6 (clr (h 131 6) i)) := by
  rw [e_X7_remove]
  rfl
/-- the class's records of a netting, the reference's -/
def nt3 (got hol gave : Int) (h : yH) : yH := zup (zup (zup h 130 11 hol) 130 10 got) 130 12 gave
def nr3 (kk : Nat) (got hol gave : Int) (g : yH) : yH := zup (zup (zup g 23 kk got) 24 kk hol) 25 kk gave
theorem nt3_ne {got hol gave : Int} {h : yH} {a j : Nat} (w : ¬ (a = 130 ∧ 10 ≤ j ∧ j ≤ 12)) : nt3 got hol gave h a j = h a j := by
  unfold nt3
  rw [zup_ne (by omega), zup_ne (by omega), zup_ne (by omega)]
theorem nr3_ne {kk : Nat} {got hol gave : Int} {g : yH} {a j : Nat} (w : ¬ (23 ≤ a ∧ a ≤ 25 ∧ j = kk)) : nr3 kk got hol gave g a j = g a j := by
  unfold nr3
  rw [zup_ne (by omega), zup_ne (by omega), zup_ne (by omega)]
theorem nt3_v {got hol gave : Int} {h : yH} : nt3 got hol gave h 130 10 = got ∧ nt3 got hol gave h 130 11 = hol ∧ nt3 got hol gave h 130 12 = gave := by
  unfold nt3
  refine ⟨?_, ?_, ?_⟩
  · rw [zup_ne (by omega), zup_at]
  · rw [zup_ne (by omega), zup_ne (by omega), zup_at]
  · rw [zup_at]
theorem nr3_v {kk : Nat} {got hol gave : Int} {g : yH} : nr3 kk got hol gave g 23 kk = got ∧ nr3 kk got hol gave g 24 kk = hol ∧ nr3 kk got hol gave g 25 kk = gave := by
  unfold nr3
  refine ⟨?_, ?_, ?_⟩
  · rw [zup_ne (by omega), zup_ne (by omega), zup_at]
  · rw [zup_ne (by omega), zup_at]
  · rw [zup_at]
/-- what a netting leaves, on both sides -/
def ntR (b e s dd : Nat) (t d : Nat → Int) (K : Int) (S q c : Nat) (p : Nat → Int) (kk : Nat) (h g h2 g2 : yH) : Prop :=
  dR b e s dd t d K S q (c + 4059) p h2 g2 ∧ (g2 35 34 = g 35 34 ∧ g2 35 50 = g 35 50) ∧ frC h h2 ∧ frR kk g g2 ∧ h2 130 10 = g2 23 kk ∧ h2 130 11 = g2 24 kk ∧ h2 130 12 = g2 25 kk
theorem ntR_of {b e s dd i kk S q c : Nat} {t d p : Nat → Int} {K got hol gave : Int} {h g hX gX : yH} (H : dR b e s dd t d K S q c p h g) (hi : i < S)
    (fX : ∀ a j, a ≠ 139 → hX a j = nt3 got hol gave h a j) (fY : ∀ a j, a ≠ 17 → gX a j = nr3 kk got hol gave g a j) (hB : dB (t 0 * t 1) (t 6) q (c + 4059) p hX gX) : ntR b e s dd t d K S q c p kk h g (zup hX 131 6 (clr (h 131 6) i)) (zup gX 14 i 0) := by
  obtain ⟨k1, k2, k3, k4, k5⟩ := H
  have S6 : S ≤ 6 := k4.1
  have fh : ∀ a j, a ≠ 139 → ¬ (a = 130 ∧ 10 ≤ j ∧ j ≤ 12) → hX a j = h a j := fun a j w1 w2 => by rw [fX a j w1, nt3_ne w2]
  have fg : ∀ a j, a ≠ 17 → ¬ (23 ≤ a ∧ a ≤ 25 ∧ j = kk) → gX a j = g a j := fun a j w1 w2 => by rw [fY a j w1, nr3_ne w2]
  obtain ⟨v1, v2, v3⟩ := nt3_v (got := got) (hol := hol) (gave := gave) (h := h)
  obtain ⟨u1, u2, u3⟩ := nr3_v (kk := kk) (got := got) (hol := hol) (gave := gave) (g := g)
  refine ⟨⟨k1.fr (fun x j w => by rw [zup_ne (by omega), fh _ _ (by omega) (by omega)]), k2.fr (fun x j w => by rw [zup_ne (by omega), fg _ _ (by omega) (by omega)]), ?_, ?_, ?_⟩, ⟨?_, ?_⟩, fun x j w => ?_, ⟨fun x j w => ?_, fun x j w1 w2 w3 => ?_⟩, ?_, ?_, ?_⟩
  · unfold dN
    have e1 : ∀ j, ¬ (10 ≤ j ∧ j ≤ 12) → (zup hX 131 6 (clr (h 131 6) i)) 130 j = h 130 j := fun j w => by rw [zup_ne (by omega), fh _ _ (by omega) (by omega)]
    have e2 : ∀ j, (zup gX 14 i 0) 35 j = g 35 j := fun j => by rw [zup_ne (by omega), fg _ _ (by omega) (by omega)]
    rw [e1 6 (by omega), e1 7 (by omega), e1 14 (by omega), e1 13 (by omega), e2, e2, e2, e2]
    exact k3
  · have D0 : dS (t 0 * t 1) (t 6) S hX gX := k4.fr (fun x j w => fh _ _ (by omega) (by omega)) (fun x j w => fg _ _ (by omega) (by omega))
    have D1 := D0.gone hi
    rw [fh 131 6 (by omega) (by omega)] at D1
    exact D1
  · exact hB.fr (Nat.le_refl _) (Nat.le_refl _) (fun x j w => zup_ne (by omega)) (fun x j w => zup_ne (by omega))
  · rw [zup_ne (by omega), fg _ _ (by omega) (by omega)]
  · rw [zup_ne (by omega), fg _ _ (by omega) (by omega)]
  · rw [zup_ne (by omega), fh _ _ (by omega) (by omega)]
  · rw [zup_ne (by omega), fg _ _ (by omega) (by omega)]
  · rw [zup_ne (by omega), fg _ _ (by omega) (by omega)]
  · rw [zup_ne (by omega), zup_ne (by omega), fX _ _ (by omega), fY _ _ (by omega), v1, u1]
  · rw [zup_ne (by omega), zup_ne (by omega), fX _ _ (by omega), fY _ _ (by omega), v2, u2]
  · rw [zup_ne (by omega), zup_ne (by omega), fX _ _ (by omega), fY _ _ (by omega), v3, u3]
theorem net2 {b e s dd a i kk n m S q c : Nat} {t d p : Nat → Int} {K : Int} {h g : yH} (H : dR b e s dd t d K S q c p h g) (hT : dT t d) (ha : (a : Int) < t 6) (hi : i < S) (h14 : 0 < g 14 i) (hk30 : kk < 30) (hc : c ≤ 1000000) :
    ∃ v h2 g2, f_X5_netShoal n [130, (a : Int), (i : Int)] h = some (v, h2) ∧ f_X12_nets m [35, (kk : Int), (a : Int), (i : Int)] g = some (v, g2) ∧ ((v = 0 ∧ h2 = h ∧ g2 = g) ∨ (v = 1 ∧ ntR b e s dd t d K S q c p kk h g h2 g2)) := by
  obtain ⟨S6, k2, k3, k4, k5⟩ := id H.2.2.2.1
  obtain ⟨-, i2, -⟩ := k5 i (by omega)
  obtain ⟨⟨d1, d2, d3, d4, d5, d6⟩, d7⟩ := i2 hi
  obtain ⟨f1, f2, f3, f4, f5, f6⟩ := d7 h14
  obtain ⟨n1, -⟩ := id H.2.2.1
  obtain ⟨p1, p2, p3, p4, p5, p6, p7, p8, p9, p10, p11⟩ := id H.1.2.1
  obtain ⟨w1, w2, w3, w4, w5⟩ := H.bp hT ha
  have hq := H.2.1.1.1.2.2.2
  have Q : ∀ {j : Nat} {k : Int}, (j, k) ∈ rQL → g 35 j = k := fun hm => H.Q hm
  obtain ⟨t1, t2⟩ := there2 (n := n) (m := m) H (show i < 6 by omega)
  rw [if_pos ⟨hi, h14⟩] at t1 t2
  have w4n : 1 ≤ t 4 ∧ t 4 ≤ 9 := hT.1.2.2.2.2.1
  have w6 := hT.1.wd.2.2.2.2
  by_cases c1 : g 13 i = g 10 a
  · have mb := mulF_b d2 d4
    have sb := shr_b (hol := hdN (g 16 i) (g 20 i) (g 35 34)) (a := (a : Int)) d2 d4 w4n
    have hb : -1 ≤ hdN (g 16 i) (g 20 i) (g 35 34) ∧ hdN (g 16 i) (g 20 i) (g 35 34) < t 6 := by
      unfold hdN
      split <;> omega
    have sz : (hdN (g 16 i) (g 20 i) (g 35 34) = -1 ∨ hdN (g 16 i) (g 20 i) (g 35 34) = (a : Int)) → shr (hdN (g 16 i) (g 20 i) (g 35 34)) (a : Int) (g 14 i) (g 19 i) (t 4) = 0 := fun w => if_pos w
    have hof := of_e (n := m) (x := 4) H.2.1.1.1 (k := 4) rfl (by omega)
    have eR : f_X12_nets m [35, (kk : Int), (a : Int), (i : Int)] g = xq_X12_nets_74 m [35, (kk : Int), (a : Int), (i : Int), hdN (g 16 i) (g 20 i) (g 35 34), shr (hdN (g 16 i) (g 20 i) (g 35 34)) (a : Int) (g 14 i) (g 19 i) (t 4)] g := by
      rw [e_X12_nets, t2, xb_some, if_neg (by decide), xg_pos (Q (j := 36) (k := 13) (by decide)), xg_pos (by omega), xg_pos (Q (j := 30) (k := 10) (by decide)), xg_pos (by omega), Int.toNat_natCast i, Int.toNat_natCast a, if_pos c1, holderNow_e hq (by omega), xb_some]
      unfold shr
      generalize hdN (g 16 i) (g 20 i) (g 35 34) = hol
      by_cases e1 : hol = -1
      · rw [if_pos e1, if_pos (Or.inl e1)]
      · rw [if_neg e1]
        by_cases e2 : hol = (a : Int)
        · rw [if_pos e2, if_pos (Or.inr e2)]
        · rw [if_neg e2, if_neg (show ¬ (hol = -1 ∨ hol = (a : Int)) by omega), xg_pos (Q (j := 37) (k := 14) (by decide)), xg_pos (by omega), xg_pos (Q (j := 40) (k := 19) (by decide)), xg_pos (by omega), xg_pos (by omega), xg_pos (Q (j := 40) (k := 19) (by decide)), xg_pos (by omega), hof, xb_some, xg_pos (by omega), xg_pos (by omega)]
    have eR2 : ∀ y0 sh hol : Int, 0 ≤ sh ∧ sh ≤ 1980 → xq_X12_nets_74 m [35, (kk : Int), (a : Int), (i : Int), hol, sh] g = xq_X12_nets_121 m [35, (kk : Int), (a : Int), (i : Int), hol, sh, (if hol = (a : Int) then g 14 i - sh else sh), (kk : Int), 25] (zup (zup g 23 kk (g 14 i - sh)) 24 kk hol) := by
      intro y0 sh hol hs
      rw [e_X12_nets_74, xg_pos (Q (j := 46) (k := 23) (by decide)), xg_pos (Q (j := 37) (k := 14) (by decide)), xg_pos (by omega), Int.toNat_natCast i, Int.toNat_natCast kk, xg_pos (by omega), xg_pos (by omega), xg_pos (Q (j := 47) (k := 24) (by decide)), xg_pos (by omega), xg_pos (Q (j := 48) (k := 25) (by decide)), zup_at]
      by_cases e2 : hol = (a : Int)
      · rw [if_pos e2, if_pos e2, xg_pos (Q (j := 46) (k := 23) (by decide)), xg_pos (by omega)]
      · rw [if_neg e2, if_neg e2]
    have hA : cPr (zup h 130 11 (hdN (g 16 i) (g 20 i) (g 35 34))) := H.1.2.1.fr (fun x j w => zup_ne (by omega))
    have eF := foa_e (n := n) (a := a) (b := b) (i := i) (t4 := t 4) hA (by rw [zup_ne (by omega)]; exact H.1.2.2.1) (by rw [zup_ne (by have := H.1.1; omega)]; exact H.1.2.2.2.2.1.2.2.2.2.1) (by omega) (by rw [zup_ne (by omega), f2]; exact d2) (by rw [zup_ne (by omega), f4]; exact d4) w4n
    rw [zup_at, zup_ne (show ¬ (133 = 130 ∧ i = 11) by omega), zup_ne (show ¬ (135 = 130 ∧ i = 11) by omega), f2, f4] at eF
    have eC : f_X5_netShoal n [130, (a : Int), (i : Int)] h = xq_X5_netShoal_80 n [130, (a : Int), (i : Int), g 14 i, shr (hdN (g 16 i) (g 20 i) (g 35 34)) (a : Int) (g 14 i) (g 19 i) (t 4), (if hdN (g 16 i) (g 20 i) (g 35 34) = (a : Int) then g 14 i - shr (hdN (g 16 i) (g 20 i) (g 35 34)) (a : Int) (g 14 i) (g 19 i) (t 4) else shr (hdN (g 16 i) (g 20 i) (g 35 34)) (a : Int) (g 14 i) (g 19 i) (t 4)), 130] (zup (zup h 130 11 (hdN (g 16 i) (g 20 i) (g 35 34))) 130 10 (g 14 i - shr (hdN (g 16 i) (g 20 i) (g 35 34)) (a : Int) (g 14 i) (g 19 i) (t 4))) := by
      rw [e_X5_netShoal, xg_pos p1, xg_pos p6, xg_pos (by omega), xg_pos p2, xg_pos (by omega), Int.toNat_natCast i, Int.toNat_natCast a, f1, H.hp a ha, if_pos (c1.trans w1), xg_pos p1, xg_pos p7, xg_pos (by omega), xg_pos p1, holderAt_e H.1.2.1 (by omega), xb_some, f5, f6, n1, xg_pos (by omega), eF, xb_some, f2, xg_pos (by omega), zup_at]
      by_cases e2 : hdN (g 16 i) (g 20 i) (g 35 34) = (a : Int)
      · rw [if_pos e2, if_pos e2]
      · rw [if_neg e2, if_neg e2]
    have sb2 : 0 ≤ shr (hdN (g 16 i) (g 20 i) (g 35 34)) (a : Int) (g 14 i) (g 19 i) (t 4) ∧ shr (hdN (g 16 i) (g 20 i) (g 35 34)) (a : Int) (g 14 i) (g 19 i) (t 4) ≤ 1980 := ⟨sb.1, by omega⟩
    rw [eR2 0 _ _ sb2] at eR
    generalize shr (hdN (g 16 i) (g 20 i) (g 35 34)) (a : Int) (g 14 i) (g 19 i) (t 4) = sh at *
    generalize hdN (g 16 i) (g 20 i) (g 35 34) = hol at *
    generalize (if hol = (a : Int) then g 14 i - sh else sh) = gave at *
    obtain ⟨B1, B2⟩ := id H.2.2.2.2
    obtain ⟨-, ⟨x3, x4, x5⟩, -⟩ := B2 a ha
    have B3 : dB (t 0 * t 1) (t 6) q c p (nt3 (g 14 i - sh) hol gave h) (nr3 kk (g 14 i - sh) hol gave g) := H.2.2.2.2.fr (Nat.le_refl _) (Nat.le_refl _) (fun x j w => nt3_ne (by omega)) (fun x j w => nr3_ne (by omega))
    have B4 := B3.add (j := a) (y := 2079) (x := g 14 i - sh) ha (by omega)
    obtain ⟨v1, v2, v3⟩ := nt3_v (got := g 14 i - sh) (hol := hol) (gave := gave) (h := h)
    have eh : zup (zup (zup h 130 11 hol) 130 10 (g 14 i - sh)) 130 12 gave = nt3 (g 14 i - sh) hol gave h := rfl
    have eg : zup (zup (zup g 23 kk (g 14 i - sh)) 24 kk hol) 25 kk gave = nr3 kk (g 14 i - sh) hol gave g := rfl
    have q139 : ∀ j, nt3 (g 14 i - sh) hol gave h 139 j = h 139 j := fun j => nt3_ne (by omega)
    have q17 : ∀ j, nr3 kk (g 14 i - sh) hol gave g 17 j = g 17 j := fun j => nr3_ne (by omega)
    have q14 : ∀ j, (zup (zup g 23 kk (g 14 i - sh)) 24 kk hol) 14 j = g 14 j := fun j => by rw [zup_ne (by omega), zup_ne (by omega)]
    have q17b : ∀ j, (zup (zup g 23 kk (g 14 i - sh)) 24 kk hol) 17 j = g 17 j := fun j => by rw [zup_ne (by omega), zup_ne (by omega)]
    have q35 : ∀ j, (zup (zup g 23 kk (g 14 i - sh)) 24 kk hol) 35 j = g 35 j := fun j => by rw [zup_ne (by omega), zup_ne (by omega)]
    rw [q139, q17] at B4
    have n4 : nt3 (g 14 i - sh) hol gave h 130 4 = 139 := by rw [nt3_ne (by omega)]; exact p3
    have n2 : nt3 (g 14 i - sh) hol gave h 130 2 = 131 := by rw [nt3_ne (by omega)]; exact p1
    have n6 : ∀ z, (zup (nt3 (g 14 i - sh) hol gave h) 139 a z) 131 6 = h 131 6 := fun z => by rw [zup_ne (by omega), nt3_ne (by omega)]
    have eC3 : ∀ r : yO, (if hol = -1 then (xg (nt3 (g 14 i - sh) hol gave h 130 2 = 131) (xb (f_X7_remove n [131, (i : Int)] (zup (nt3 (g 14 i - sh) hol gave h) 139 a (h 139 a + (g 14 i - sh)))) (fun _ h2 => some (1, h2)))) else (if hol = (a : Int) then (xg (nt3 (g 14 i - sh) hol gave h 130 2 = 131) (xb (f_X7_remove n [131, (i : Int)] (zup (nt3 (g 14 i - sh) hol gave h) 139 a (h 139 a + (g 14 i - sh)))) (fun _ h3 => some (1, h3)))) else (xg (nt3 (g 14 i - sh) hol gave h 130 4 = 139) (xg (0 ≤ hol ∧ hol < 6) (xg (-2147483648 ≤ ((zup (nt3 (g 14 i - sh) hol gave h) 139 a (h 139 a + (g 14 i - sh))) 139 hol.toNat) + sh ∧ ((zup (nt3 (g 14 i - sh) hol gave h) 139 a (h 139 a + (g 14 i - sh))) 139 hol.toNat) + sh ≤ 2147483647) (xg (0 ≤ hol ∧ hol < 6) (xg (nt3 (g 14 i - sh) hol gave h 130 2 = 131) (xb (f_X7_remove n [131, (i : Int)] (zup (zup (nt3 (g 14 i - sh) hol gave h) 139 a (h 139 a + (g 14 i - sh))) 139 hol.toNat (((zup (nt3 (g 14 i - sh) hol gave h) 139 a (h 139 a + (g 14 i - sh))) 139 hol.toNat) + sh))) (fun _ h4 => some (1, h4)))))))))) = r → f_X5_netShoal n [130, (a : Int), (i : Int)] h = r := by
      intro r e
      rw [eC, e_X5_netShoal_80, show (130 : Int).toNat = 130 from rfl, xh_e, eh, xg_pos n4, xg_pos (by omega), Int.toNat_natCast a, q139, v1, v2, xg_pos (by omega), xg_pos (by omega)]
      exact e
    have eR3 : ∀ r : yO, (if 0 < sh then (xg (g 35 42 = 17) (xg (0 ≤ hol ∧ hol < 6) (xg (-2147483648 ≤ ((zup (nr3 kk (g 14 i - sh) hol gave g) 17 a (g 17 a + (g 14 i - sh))) 17 hol.toNat) + sh ∧ ((zup (nr3 kk (g 14 i - sh) hol gave g) 17 a (g 17 a + (g 14 i - sh))) 17 hol.toNat) + sh ≤ 2147483647) (xg (0 ≤ hol ∧ hol < 6) (xg (g 35 37 = 14) (xg (0 ≤ (i : Int) ∧ (i : Int) < 6) (some (1, zup (zup (zup (nr3 kk (g 14 i - sh) hol gave g) 17 a (g 17 a + (g 14 i - sh))) 17 hol.toNat (((zup (nr3 kk (g 14 i - sh) hol gave g) 17 a (g 17 a + (g 14 i - sh))) 17 hol.toNat) + sh)) 14 i 0)))))))) else (xg (g 35 37 = 14) (xg (0 ≤ (i : Int) ∧ (i : Int) < 6) (some (1, zup (zup (nr3 kk (g 14 i - sh) hol gave g) 17 a (g 17 a + (g 14 i - sh))) 14 i 0))))) = r → f_X12_nets m [35, (kk : Int), (a : Int), (i : Int)] g = r := by
      intro r e
      rw [eR, e_X12_nets_121, q35, q35, q14, q17b, Int.toNat_natCast kk, Int.toNat_natCast i, Int.toNat_natCast a, eg, xg_pos (by omega), xg_pos (Q (j := 42) (k := 17) (by decide)), xg_pos (by omega), xg_pos (Q (j := 37) (k := 14) (by decide)), xg_pos (by omega), xg_pos (by omega), xg_pos (by omega), xg_pos (by omega)]
      exact e
    clear eC eR eR2 eF
    by_cases e1 : hol = -1 ∨ hol = (a : Int)
    · have z := sz e1
      refine ⟨1, zup (zup (nt3 (g 14 i - sh) hol gave h) 139 a (h 139 a + (g 14 i - sh))) 131 6 (clr (h 131 6) i), zup (zup (nr3 kk (g 14 i - sh) hol gave g) 17 a (g 17 a + (g 14 i - sh))) 14 i 0, eC3 _ ?_, eR3 _ ?_, Or.inr ⟨rfl, ntR_of (got := g 14 i - sh) (hol := hol) (gave := gave) H hi (fun x j w => zup_ne (by omega)) (fun x j w => zup_ne (by omega)) (B4.fr (Nat.le_refl _) (by omega) (fun _ _ _ => rfl) (fun _ _ _ => rfl))⟩⟩
      · by_cases e2 : hol = -1
        · rw [if_pos e2, xg_pos n2, rem_e, xb_some, n6]
        · rw [if_neg e2, if_pos (by omega), xg_pos n2, rem_e, xb_some, n6]
      · rw [if_neg (by omega), xg_pos (Q (j := 37) (k := 14) (by decide)), xg_pos (by omega)]
    · obtain ⟨w, rfl⟩ : ∃ w : Nat, hol = (w : Int) := ⟨hol.toNat, by omega⟩
      obtain ⟨-, ⟨y3, y4, y5⟩, -⟩ := B2 w (by omega)
      have B5 := B4.add (j := w) (y := 1980) (x := sh) (by omega) (by omega)
      have c139 : (zup (nt3 (g 14 i - sh) (w : Int) gave h) 139 a (h 139 a + (g 14 i - sh))) 139 w = h 139 w := by rw [zup_ne (by omega), q139]
      have c17 : (zup (nr3 kk (g 14 i - sh) (w : Int) gave g) 17 a (g 17 a + (g 14 i - sh))) 17 w = g 17 w := by rw [zup_ne (by omega), q17]
      have c6 : ∀ z, (zup (zup (nt3 (g 14 i - sh) (w : Int) gave h) 139 a (h 139 a + (g 14 i - sh))) 139 w z) 131 6 = h 131 6 := fun z => by rw [zup_ne (by omega), n6]
      rw [c139, c17] at B5
      rw [Int.toNat_natCast w, c139] at eC3
      rw [Int.toNat_natCast w, c17] at eR3
      refine ⟨1, zup (zup (zup (nt3 (g 14 i - sh) (w : Int) gave h) 139 a (h 139 a + (g 14 i - sh))) 139 w (h 139 w + sh)) 131 6 (clr (h 131 6) i), zup (zup (zup (nr3 kk (g 14 i - sh) (w : Int) gave g) 17 a (g 17 a + (g 14 i - sh))) 17 w (g 17 w + sh)) 14 i 0, eC3 _ ?_, eR3 _ ?_, Or.inr ⟨rfl, ntR_of (got := g 14 i - sh) (hol := (w : Int)) (gave := gave) H hi (fun x j w => by rw [zup_ne (by omega), zup_ne (by omega)]) (fun x j w => by rw [zup_ne (by omega), zup_ne (by omega)]) (B5.fr (Nat.le_refl _) (by omega) (fun _ _ _ => rfl) (fun _ _ _ => rfl))⟩⟩
      · rw [if_neg (by omega), if_neg (by omega), xg_pos n4, xg_pos (by omega), xg_pos (by omega), xg_pos (by omega), xg_pos n2, rem_e, xb_some, c6]
      · by_cases e3 : 0 < sh
        · rw [if_pos e3, xg_pos (Q (j := 42) (k := 17) (by decide)), xg_pos (by omega), xg_pos (by omega), xg_pos (by omega), xg_pos (Q (j := 37) (k := 14) (by decide)), xg_pos (by omega)]
        · have z : sh = 0 := by omega
          have y : zup (zup (nr3 kk (g 14 i - sh) (w : Int) gave g) 17 a (g 17 a + (g 14 i - sh))) 17 w (g 17 w + sh) = zup (nr3 kk (g 14 i - sh) (w : Int) gave g) 17 a (g 17 a + (g 14 i - sh)) := by
            have e : g 17 w + sh = (zup (nr3 kk (g 14 i - sh) (w : Int) gave g) 17 a (g 17 a + (g 14 i - sh))) 17 w := by
              rw [c17]
              omega
            rw [e, zup_self]
          rw [if_neg e3, xg_pos (Q (j := 37) (k := 14) (by decide)), xg_pos (by omega), y]
  · refine ⟨0, h, g, ?_, ?_, Or.inl ⟨rfl, rfl, rfl⟩⟩
    · rw [e_X5_netShoal, xg_pos p1, xg_pos p6, xg_pos (by omega), xg_pos p2, xg_pos (by omega), Int.toNat_natCast i, Int.toNat_natCast a, f1, H.hp a ha, if_neg (fun w => c1 (w.trans w1.symm))]
    · rw [e_X12_nets, t2, xb_some, if_neg (by decide), xg_pos (Q (j := 36) (k := 13) (by decide)), xg_pos (by omega), xg_pos (Q (j := 30) (k := 10) (by decide)), xg_pos (by omega), Int.toNat_natCast i, Int.toNat_natCast a, if_neg c1]
end
section
/-! one deed on both sides -/
theorem deedOf_e {m s dd kk w : Nat} {t d u : Nat → Int} {g : yH} (H : dG s dd t d u g) (hk : kk < 30) (hw : w < 4) : f_X12_deedOf m [35, (kk : Int), (w : Int)] g = some (d (1 + 4 * kk + w), g) := by
  obtain ⟨k1, ⟨k2, k3⟩, -, k4⟩ := H
  rw [e_X12_deedOf, xg_pos (k1.1.2.2.2.p (j := 7) (k := 6) (by decide)), k3, xg_pos (by omega), xg_pos (by omega), xg_pos (by omega), xg_pos (by omega), xg_pos (by omega), xg_pos (by omega), show (121 * (dd : Int) + 1 + 4 * (kk : Int) + (w : Int)).toNat = 121 * dd + (1 + 4 * kk + w) by omega, k4 _ (by omega)]
theorem numC_e {n b e kk : Nat} {t d : Nat → Int} {h : yH} (H : dC b e t d h) (hk : (kk : Int) < d 0) (hk30 : kk < 30) : f_X1_numberOf n [(e : Int), (kk : Int), 0] h = some (d (2 + 4 * kk), h) ∧ f_X1_numberOf n [(e : Int), (kk : Int), 1] h = some (d (3 + 4 * kk), h) ∧ f_X1_numberOf n [(e : Int), (kk : Int), 2] h = some (d (4 + 4 * kk), h) := by
  obtain ⟨-, k1, k2, k3, k4, k5, k6, k7, k8⟩ := H
  obtain ⟨-, q2, q3, q4⟩ := k6.2 kk hk
  have e2 : ((e : Int) + 2).toNat = e + 2 := by omega
  refine ⟨?_, ?_, ?_⟩
  · rw [e_X1_numberOf, Int.toNat_natCast e, xg_pos k8, xg_pos (by omega), xg_pos (by omega), xg_pos (by omega), e2, show (3 * (kk : Int) + 0).toNat = 3 * kk by omega, q2]
  · rw [e_X1_numberOf, Int.toNat_natCast e, xg_pos k8, xg_pos (by omega), xg_pos (by omega), xg_pos (by omega), e2, show (3 * (kk : Int) + 1).toNat = 3 * kk + 1 by omega, q3]
  · rw [e_X1_numberOf, Int.toNat_natCast e, xg_pos k8, xg_pos (by omega), xg_pos (by omega), xg_pos (by omega), e2, show (3 * (kk : Int) + 2).toNat = 3 * kk + 2 by omega, q4]
/-- the records of a deed -/
def rcR (K : Int) (d : Nat → Int) (kk : Nat) (h g : yH) : Prop := (K < 1 → d (1 + 4 * kk) = 1 ∨ d (1 + 4 * kk) = 2 → h 130 8 = g 22 kk ∧ h 130 9 = g 21 kk) ∧ (d (1 + 4 * kk) = 4 → h 130 10 = g 23 kk ∧ h 130 11 = g 24 kk ∧ h 130 12 = g 25 kk)
/-- what a deed leaves -/
def dsR (b e s dd : Nat) (t d : Nat → Int) (K : Int) (q c kk : Nat) (h g : yH) (v : Int) (h2 g2 : yH) : Prop :=
  (v = 0 ∨ v = 1) ∧ (∃ S2 p2, dR b e s dd t d K S2 (q + 6) (c + 4059) p2 h2 g2) ∧ (g2 35 34 = g 35 34 ∧ g2 35 50 = g 35 50) ∧ frC h h2 ∧ frR kk g g2 ∧ (v = 1 → rcR K d kk h2 g2)
theorem does2 {b e s dd kk n m S q c : Nat} {t d p : Nat → Int} {K : Int} {h g : yH} (H : dR b e s dd t d K S q c p h g) (hT : dT t d) (hn : 40 ≤ n) (hm : 60 ≤ m) (hk : g 35 34 = (kk : Int)) (hkd : (kk : Int) < d 0) (hq : q ≤ 900) (hc : c ≤ 1000000) :
    ∃ v h2 g2, f_X5_doDeed n [130] h = some (v, h2) ∧ f_X12_does m [35, (kk : Int)] g = some (v, g2) ∧ dsR b e s dd t d K q c kk h g v h2 g2 := by
  have d30 := hT.2.2.1
  have hk30 : kk < 30 := by omega
  have wd := (hT.2.2.2 kk hk30).1 hkd
  obtain ⟨hbe, k1, k2, k3, k4, k5, k6, k7, k8⟩ := id H.1
  obtain ⟨n1, -⟩ := id H.2.2.1
  have h6 : h 130 6 = (kk : Int) := n1.trans hk
  have hkd0 := (k6.2 kk hkd).1
  have e1' : ((e : Int) + 1).toNat = e + 1 := by omega
  obtain ⟨N0, N1, N2⟩ := numC_e (n := n) H.1 hkd hk30
  have Q : ∀ {j : Nat} {k : Int}, (j, k) ∈ rQL → g 35 j = k := fun hm => H.Q hm
  have D0 := deedOf_e (m := m) (w := 0) H.2.1 hk30 (by decide)
  have D1 := deedOf_e (m := m) (w := 1) H.2.1 hk30 (by decide)
  have D2 := deedOf_e (m := m) (w := 2) H.2.1 hk30 (by decide)
  rw [show ((0 : Nat) : Int) = 0 from rfl, Nat.add_zero] at D0
  rw [show ((1 : Nat) : Int) = 1 from rfl, show 1 + 4 * kk + 1 = 2 + 4 * kk by omega] at D1
  rw [show ((2 : Nat) : Int) = 2 from rfl, show 1 + 4 * kk + 2 = 3 + 4 * kk by omega] at D2
  have gz_ne : ∀ x j, ¬ ((x = 21 ∨ x = 22) ∧ j = kk) → (zup (zup g 21 kk 0) 22 kk 0) x j = g x j := fun x j w => by rw [zup_ne (by omega), zup_ne (by omega)]
  have gz21 : (zup (zup g 21 kk 0) 22 kk 0) 21 kk = 0 := by rw [zup_ne (by omega), zup_at]
  have gz22 : (zup (zup g 21 kk 0) 22 kk 0) 22 kk = 0 := zup_at _ _ _ _
  have Hz : dR b e s dd t d K S q c p h (zup (zup g 21 kk 0) 22 kk 0) := H.fr (Nat.le_refl _) (Nat.le_refl _) (fun _ _ _ => rfl) (fun x j w => gz_ne x j (by unfold nR at w; omega))
  have frz : frR kk g (zup (zup g 21 kk 0) 22 kk 0) := ⟨fun x j w => gz_ne x j (by omega), fun x j w1 w2 w3 => gz_ne x j (by omega)⟩
  have D3 := deedOf_e (m := m) (w := 3) Hz.2.1 hk30 (by decide)
  rw [show ((3 : Nat) : Int) = 3 from rfl, show 1 + 4 * kk + 3 = 4 + 4 * kk by omega] at D3
  have Qz : ∀ {j : Nat} {k : Int}, (j, k) ∈ rQL → (zup (zup g 21 kk 0) 22 kk 0) 35 j = k := fun hm => Hz.Q hm
  have keep : ∀ {h2 g2 : yH} {S2 : Nat} {p2 : Nat → Int}, dR b e s dd t d K S2 q c p2 h2 g2 → ∃ S2 p2, dR b e s dd t d K S2 (q + 6) (c + 4059) p2 h2 g2 := fun R => ⟨_, _, R.fr (by omega) (by omega) (fun _ _ _ => rfl) (fun _ _ _ => rfl)⟩
  have z34 : (zup (zup g 21 kk 0) 22 kk 0) 35 34 = g 35 34 ∧ (zup (zup g 21 kk 0) 22 kk 0) 35 50 = g 35 50 := ⟨gz_ne _ _ (by omega), gz_ne _ _ (by omega)⟩
  have no : dsR b e s dd t d K q c kk h g 0 h (zup (zup g 21 kk 0) 22 kk 0) := ⟨Or.inl rfl, keep Hz, z34, frC.r, frz, fun w => by cases w⟩
  generalize hgz : zup (zup g 21 kk 0) 22 kk 0 = gz at *
  by_cases c5 : d (1 + 4 * kk) = 5
  · refine ⟨1, h, gz, ?_, ?_, Or.inr rfl, keep Hz, z34, frC.r, frz, fun _ => ⟨fun _ w => by omega, fun w => by omega⟩⟩
    · rw [e_X5_doDeed, k3, h6, Int.toNat_natCast e, e1', Int.toNat_natCast kk, xg_pos (by omega), xg_pos k7, xg_pos (by omega), hkd0, if_pos c5]
    · rw [e_X12_does, D0, xb_some, D1, xb_some, D2, xb_some, xg_pos (Q (j := 44) (k := 21) (by decide)), xg_pos (by omega), xg_pos (Q (j := 45) (k := 22) (by decide)), xg_pos (by omega), Int.toNat_natCast kk, if_pos c5, hgz]
  have n5 := c5
  by_cases cA : 0 ≤ d (2 + 4 * kk) ∧ d (2 + 4 * kk) < t 6
  rotate_left
  · refine ⟨0, h, gz, ?_, ?_, no⟩
    · rw [e_X5_doDeed, k3, h6, Int.toNat_natCast e, e1', Int.toNat_natCast kk, xg_pos (by omega), xg_pos k7, xg_pos (by omega), hkd0, if_neg n5, xg_pos (by omega), N0, xb_some, k3, xg_pos (by omega), h6, N1, xb_some, k2, xg_pos (by omega), hasBoat_e k4, xb_some, if_neg cA, if_pos rfl]
    · rw [e_X12_does, D0, xb_some, D1, xb_some, D2, xb_some, xg_pos (Q (j := 44) (k := 21) (by decide)), xg_pos (by omega), xg_pos (Q (j := 45) (k := 22) (by decide)), xg_pos (by omega), Int.toNat_natCast kk, if_neg n5, hgz, isBoatR_e Hz hT, xb_some, if_neg cA, if_pos rfl]
  obtain ⟨a, ea⟩ : ∃ a : Nat, d (2 + 4 * kk) = (a : Int) := ⟨(d (2 + 4 * kk)).toNat, by omega⟩
  rw [ea] at cA N0 D1
  obtain ⟨w1, w2, w3, w4, w5⟩ := Hz.bp hT cA.2
  have CC : ∀ r : yO, (if d (1 + 4 * kk) = 0 then (xb (f_X5_rowBoat n [130, (a : Int), d (3 + 4 * kk)] h) (fun v10 h10 => xg (0 ≤ v10 ∧ v10 ≤ 1) (some (v10, h10)))) else (if d (1 + 4 * kk) = 2 then (xg (h 130 2 = 131) (xb (f_X5_claimShoals n [130, (a : Int), (h 131 6), d (3 + 4 * kk)] h) (fun _ h9 => some (1, h9)))) else (xg (h 130 2 = 131) (xb (f_X7_isThere n [131, d (3 + 4 * kk)] h) (fun v4 h4 => if v4 = 0 then (some (0, h4)) else (if d (1 + 4 * kk) = 1 then (xg (0 ≤ (h4 130 1)) (xb (f_X1_numberOf n [(h4 130 1), (h4 130 6), 2] h4) (fun v7 h7 => xb (f_X5_claimShoals n [130, (a : Int), (yari 5 1 (d (3 + 4 * kk))), v7] h7) (fun _ h8 => some (1, h8))))) else (if d (1 + 4 * kk) = 3 then (xb (f_X5_splitShoal n [130, (a : Int), d (3 + 4 * kk)] h4) (fun v6 h6 => xg (0 ≤ v6 ∧ v6 ≤ 1) (some (v6, h6)))) else (xb (f_X5_netShoal n [130, (a : Int), d (3 + 4 * kk)] h4) (fun v5 h5 => xg (0 ≤ v5 ∧ v5 ≤ 1) (some (v5, h5))))))))))) = r → f_X5_doDeed n [130] h = r := by
    intro r er
    rw [e_X5_doDeed, k3, h6, Int.toNat_natCast e, e1', Int.toNat_natCast kk, xg_pos (by omega), xg_pos k7, xg_pos (by omega), hkd0, if_neg n5, xg_pos (by omega), N0, xb_some, k3, xg_pos (by omega), h6, N1, xb_some, k2, xg_pos (by omega), hasBoat_e k4, xb_some, if_pos cA, if_neg (by decide)]
    exact er
  have RC : ∀ r : yO, (if d (1 + 4 * kk) = 0 then (xg (gz 35 30 = 10) (xg (0 ≤ (a : Int) ∧ (a : Int) < 6) (xb (f_X12_beside m [35, (gz 10 a), d (3 + 4 * kk)] gz) (fun v12 h12 => xg (h12 35 30 = 10) (if v12 = (-1) then (xg (h12 35 30 = 10) (xg (0 ≤ (a : Int) ∧ (a : Int) < 6) (xg (0 ≤ (a : Int) ∧ (a : Int) < 6) (xg (0 ≤ (h12 10 a) ∧ (h12 10 a) ≤ 63) (if v12 = (-1) then (some (0, zup h12 10 a (h12 10 a))) else (some (1, zup h12 10 a (h12 10 a)))))))) else (xg (0 ≤ (a : Int) ∧ (a : Int) < 6) (xg (0 ≤ v12 ∧ v12 ≤ 63) (if v12 = (-1) then (some (0, zup h12 10 a v12)) else (some (1, zup h12 10 a v12)))))))))) else (if d (1 + 4 * kk) = 3 then (xb (f_X12_splits m [35, (a : Int), d (3 + 4 * kk)] gz) (fun v11 h11 => xg (0 ≤ v11 ∧ v11 ≤ 1) (some (v11, h11)))) else (if d (1 + 4 * kk) = 4 then (xb (f_X12_nets m [35, (kk : Int), (a : Int), d (3 + 4 * kk)] gz) (fun v10 h10 => xg (0 ≤ v10 ∧ v10 ≤ 1) (some (v10, h10)))) else (if d (1 + 4 * kk) = 1 then (xb (f_X12_isThere m [35, d (3 + 4 * kk)] gz) (fun v7 h7 => if v7 = 0 then (xg (0 ≤ v7 ∧ v7 ≤ 1) (some (v7, h7))) else (xb (f_X12_deedOf m [35, (kk : Int), 3] h7) (fun v8 h8 => xb (f_X12_claim m [35, (kk : Int), (a : Int), d (3 + 4 * kk), v8] h8) (fun _ h9 => xg (0 ≤ v7 ∧ v7 ≤ 1) (some (v7, h9))))))) else (xg (gz 35 45 = 22) (xb (f_X12_hearersOf m [35, (a : Int)] gz) (fun v6 h6 => xg (0 ≤ (kk : Int) ∧ (kk : Int) < 30) (xl_X12_does m 182 [35, (kk : Int), d (1 + 4 * kk), (a : Int), d (3 + 4 * kk), 0] (zup h6 22 kk v6))))))))) = r → f_X12_does m [35, (kk : Int)] g = r := by
    intro r er
    rw [e_X12_does, D0, xb_some, D1, xb_some, D2, xb_some, xg_pos (Q (j := 44) (k := 21) (by decide)), xg_pos (by omega), xg_pos (Q (j := 45) (k := 22) (by decide)), xg_pos (by omega), Int.toNat_natCast kk, if_neg n5, hgz, isBoatR_e Hz hT, xb_some, if_pos cA, if_neg (by decide), Int.toNat_natCast a]
    exact er
  clear N0 N1 D0 D1 D2
  by_cases c0 : d (1 + 4 * kk) = 0
  · have hs : 0 ≤ d (3 + 4 * kk) ∧ d (3 + 4 * kk) ≤ 3 := by
      unfold tWd at wd
      omega
    obtain ⟨r1, r2, r3⟩ := row2 (n := n) (m := m) Hz hT cA.2 hs
    by_cases cb : besV (t 0) (t 1) (p a) (d (3 + 4 * kk)) = -1
    · rw [if_pos cb, if_pos cb] at r1
      refine ⟨0, h, gz, CC _ ?_, RC _ ?_, no⟩
      · rw [if_pos c0, r1, xb_some, xg_pos (by decide)]
      · rw [if_pos c0, xg_pos (Qz (j := 30) (k := 10) (by decide)), xg_pos (by omega), r2, xb_some, xg_pos (Qz (j := 30) (k := 10) (by decide)), if_pos cb, xg_pos (Qz (j := 30) (k := 10) (by decide)), xg_pos (by omega), xg_pos (by omega), w1, xg_pos w4, if_pos cb, ← w1, zup_self]
    · rw [if_neg cb, if_neg cb] at r1
      have r4 := r3.resolve_left cb
      have R := Hz.row w3 r4.1 r4.2
      refine ⟨1, zup h 138 a (besV (t 0) (t 1) (p a) (d (3 + 4 * kk))), zup gz 10 a (besV (t 0) (t 1) (p a) (d (3 + 4 * kk))), CC _ ?_, RC _ ?_, Or.inr rfl, keep R, ⟨by rw [zup_ne (by omega)]; exact z34.1, by rw [zup_ne (by omega)]; exact z34.2⟩, fun x j w => zup_ne (by omega), frz.t ⟨fun x j w => zup_ne (by omega), fun x j _ _ _ => zup_ne (by omega)⟩, fun _ => ⟨fun _ w => by omega, fun w => by omega⟩⟩
      · rw [if_pos c0, r1, xb_some, xg_pos (by decide)]
      · rw [if_pos c0, xg_pos (Qz (j := 30) (k := 10) (by decide)), xg_pos (by omega), r2, xb_some, xg_pos (Qz (j := 30) (k := 10) (by decide)), if_neg cb, xg_pos (by omega), xg_pos r4.1, if_neg cb]
  have HA : dR b e s dd t d K S q c p (zup (zup h 130 8 (hrs (bU t p) a)) 130 9 0) gz := Hz.fr (Nat.le_refl _) (Nat.le_refl _) (fun x j w => by
    unfold nC at w
    rw [zup_ne (by omega), zup_ne (by omega)]) (fun _ _ _ => rfl)
  have A8 : (zup (zup h 130 8 (hrs (bU t p) a)) 130 9 0) 130 8 = hrs (bU t p) a := by rw [zup_ne (by omega), zup_at]
  have A9 : (zup (zup h 130 8 (hrs (bU t p) a)) 130 9 0) 130 9 = 0 := zup_at _ _ _ _
  have A6 : (zup (zup h 130 8 (hrs (bU t p) a)) 130 9 0) 131 6 = h 131 6 := by rw [zup_ne (by omega), zup_ne (by omega)]
  have fA : frC h (zup (zup h 130 8 (hrs (bU t p) a)) 130 9 0) := fun x j w => by rw [zup_ne (by omega), zup_ne (by omega)]
  have hrb := hrs_b (a := a) (Hz.W hT)
  by_cases c2 : d (1 + 4 * kk) = 2
  · have hs : 0 ≤ d (3 + 4 * kk) ∧ d (3 + 4 * kk) ≤ 20 := by
      unfold tWd at wd
      omega
    have eC := claimC_e (n := n) (said := d (3 + 4 * kk)) (bits := h 131 6) Hz hT (by omega) cA.2
    have HB : dR b e s dd t d K S q c p (zup (zup h 130 8 (hrs (bU t p) a)) 130 9 0) (zup gz 22 kk (hrs (bU t p) a)) := HA.fr (Nat.le_refl _) (Nat.le_refl _) (fun _ _ _ => rfl) (fun x j w => zup_ne (by unfold nR at w; omega))
    obtain ⟨h2, g2, f1, f2, f3, f4, f5, f6⟩ := claimA_l (x2 := d (1 + 4 * kk)) hT cA.2 hs hk30 6 0 n m q _ _ rfl (by omega) (by omega) (by omega) (⟨HB, ⟨A8, A6⟩, by rw [zup_ne (by omega), z34.1]; exact hk, by rw [A9, zup_ne (by omega), gz21], fun _ => zup_at _ _ _ _⟩ : caR b e s dd t d K S q c p a kk (h 131 6) _ _)
    rw [show ((min 0 S : Nat) : Int) = 0 by omega] at f2
    rw [show ((0 : Nat) : Int) = 0 from rfl] at f1
    obtain ⟨x1, ⟨x2, x3⟩, x4, x5, x6⟩ := f3
    refine ⟨1, h2, g2, CC _ ?_, RC _ ?_, Or.inr rfl, ⟨_, _, x1.fr (Nat.le_refl _) (by omega) (fun _ _ _ => rfl) (fun _ _ _ => rfl)⟩, ⟨x4.trans hk.symm, f4.trans (by rw [zup_ne (by omega)]; exact z34.2)⟩, fA.t f5, (frz.t ⟨fun x j w => zup_ne (by omega), fun x j _ _ w => zup_ne (by omega)⟩).t f6, fun _ => ⟨fun w _ => ⟨by rw [x2, x6 w], x5⟩, fun w => by omega⟩⟩
    · rw [if_neg c0, if_pos c2, xg_pos k1.1, eC, f1, xb_some]
    · rw [if_neg c0, if_neg (by omega), if_neg (by omega), if_neg (by omega), xg_pos (Qz (j := 45) (k := 22) (by decide)), hearR_e Hz hT (by omega) cA.2, xb_some, xg_pos (by omega), f2]
  have hs : 0 ≤ d (3 + 4 * kk) ∧ d (3 + 4 * kk) ≤ 5 := by
    unfold tWd at wd
    omega
  obtain ⟨i, ei⟩ : ∃ i : Nat, d (3 + 4 * kk) = (i : Int) := ⟨(d (3 + 4 * kk)).toNat, by omega⟩
  obtain ⟨t1, t2⟩ := there2 (n := n) (m := m) Hz (show i < 6 by omega)
  rw [ei] at CC RC
  by_cases cT : i < S ∧ 0 < gz 14 i
  rotate_left
  · rw [if_neg cT] at t1 t2
    refine ⟨0, h, gz, CC _ ?_, RC _ ?_, no⟩
    · rw [if_neg c0, if_neg c2, xg_pos k1.1, t1, xb_some, if_pos rfl]
    · rw [if_neg c0]
      by_cases c3 : d (1 + 4 * kk) = 3
      · rw [if_pos c3, e_X12_splits, t2, xb_some, if_pos rfl, xb_some, xg_pos (by decide)]
      · rw [if_neg c3]
        by_cases c4 : d (1 + 4 * kk) = 4
        · rw [if_pos c4, e_X12_nets, t2, xb_some, if_pos rfl, xb_some, xg_pos (by decide)]
        · rw [if_neg c4, if_pos (by unfold tWd at wd; omega), t2, xb_some, if_pos rfl, xg_pos (by decide)]
  rw [if_pos cT] at t1 t2
  by_cases c3 : d (1 + 4 * kk) = 3
  · obtain ⟨v, h2, g2, S2, r1, r2, r3, r4, r5, r6, r7⟩ := split2 (n := n) (m := m) Hz hT cA.2 cT.1 cT.2
    refine ⟨v, h2, g2, CC _ ?_, RC _ ?_, r3, keep r4, ⟨r5.1.trans z34.1, r5.2.trans z34.2⟩, r6, frz.t ⟨fun x j w => r7 x j (by omega), fun x j _ _ _ => r7 x j (by omega)⟩, fun _ => ⟨fun _ w => by omega, fun w => by omega⟩⟩
    · rw [if_neg c0, if_neg c2, xg_pos k1.1, t1, xb_some, if_neg (by decide), if_neg (by omega), if_pos c3, r1, xb_some, xg_pos (by omega)]
    · rw [if_neg c0, if_pos c3, r2, xb_some, xg_pos (by omega)]
  by_cases c4 : d (1 + 4 * kk) = 4
  · obtain ⟨v, h2, g2, r1, r2, r3⟩ := net2 (n := n) (m := m) (kk := kk) Hz hT cA.2 cT.1 cT.2 hk30 hc
    have eCn : f_X5_doDeed n [130] h = some (v, h2) := CC _ (by
      rw [if_neg c0, if_neg c2, xg_pos k1.1, t1, xb_some, if_neg (by decide), if_neg (by omega), if_neg c3, r1, xb_some, xg_pos (by omega)])
    have eRn : f_X12_does m [35, (kk : Int)] g = some (v, g2) := RC _ (by
      rw [if_neg c0, if_neg c3, if_pos c4, r2, xb_some, xg_pos (by omega)])
    rcases r3 with ⟨y1, y2, y3⟩ | ⟨y1, y2⟩
    · refine ⟨v, h2, g2, eCn, eRn, ?_⟩
      rw [y1, y2, y3]
      exact no
    · obtain ⟨x1, x2, x3, x4, x5⟩ := y2
      exact ⟨v, h2, g2, eCn, eRn, Or.inr y1, ⟨_, _, x1.fr (by omega) (Nat.le_refl _) (fun _ _ _ => rfl) (fun _ _ _ => rfl)⟩, ⟨x2.1.trans z34.1, x2.2.trans z34.2⟩, x3, frz.t x4, fun _ => ⟨fun _ w => by omega, fun _ => x5⟩⟩
  have c1 : d (1 + 4 * kk) = 1 := by
    unfold tWd at wd
    omega
  have hs3 : 0 ≤ d (4 + 4 * kk) ∧ d (4 + 4 * kk) ≤ 20 := by
    unfold tWd at wd
    omega
  have eC := claimC_e (n := n) (said := d (4 + 4 * kk)) (bits := yari 5 1 (i : Int)) Hz hT (by omega) cA.2
  obtain ⟨h2, g2, f1, f2, f3⟩ := claim1 (n := n) (m := m) HA hT (by omega) (by omega) cA.2 cT.1 cT.2 hs3 (z34.1.trans hk) hk30 A8 (by omega)
  obtain ⟨x1, ⟨x2, x3⟩, x4, ⟨x5, x6⟩, x7, x8, x9, x10⟩ := f3
  refine ⟨1, h2, g2, CC _ ?_, RC _ ?_, Or.inr rfl, ⟨_, _, x1.fr (by omega) (by omega) (fun _ _ _ => rfl) (fun _ _ _ => rfl)⟩, ⟨x5.trans z34.1, x6.trans z34.2⟩, fA.t x9, frz.t x10, fun _ => ⟨fun w _ => ⟨by rw [x2, A8, x8 w, gz22, (sel_e hrb).2], x7 (by rw [A9, gz21])⟩, fun w => by omega⟩⟩
  · rw [if_neg c0, if_neg c2, xg_pos k1.1, t1, xb_some, if_neg (by decide), if_pos c1, k3, xg_pos (by omega), h6, N2, xb_some, eC, f1, xb_some]
  · rw [if_neg c0, if_neg c3, if_neg c4, if_pos c1, t2, xb_some, if_neg (by decide), D3, xb_some, f2, xb_some, xg_pos (by decide)]
end
section
/-! all shoals drift, on both sides -/
theorem isThC_e {n i : Nat} {h : yH} (hb : 0 ≤ h 131 6 ∧ h 131 6 ≤ 63) (hi : i < 6) : f_X7_isThere n [131, (i : Int)] h = some (if bt (h 131 6) i = true then 1 else 0, h) := by
  have qb := (bit_b hb).2 i hi
  rw [e_X7_isThere, if_neg (by omega), if_pos (by omega)]
  by_cases w : bt (h 131 6) i = true
  · rw [if_pos w, if_pos (qb.mpr w)]
  · rw [if_neg w, if_neg (fun v => w (qb.mp v))]
theorem driftC_l {b e : Nat} {t d : Nat → Int} {h : yH} (H : dC b e t d h) (hT : dT t d) (hb : 0 ≤ h 131 6 ∧ h 131 6 ≤ 63) (hp : ∀ i, i < 6 → bt (h 131 6) i = true → 0 ≤ h 132 i ∧ h 132 i < t 0 * t 1) : ∀ (mm k n : Nat) (g : yH), mm + k = 6 → mm < n → (∀ a j, ¬ (a = 132 ∧ j < k) → g a j = h a j) → (∀ i, i < k → bt (h 131 6) i = true → g 132 i = drV (t 0) (t 1) (h 132 i) (h 134 i)) →
    ∃ h2, xl_X7_driftOn n 2 [131, (b : Int), (k : Int)] g = some (0, h2) ∧ (∀ a j, a ≠ 132 → h2 a j = h a j) ∧ ∀ i, i < 6 → bt (h 131 6) i = true → h2 132 i = drV (t 0) (t 1) (h 132 i) (h 134 i) := by
  intro mm
  induction mm with
  | zero =>
    intro k n g e1 e2 fr hv
    obtain ⟨n, rfl⟩ : ∃ n', n = n' + 1 := ⟨n - 1, by omega⟩
    refine ⟨g, ?_, fun a j w => fr a j (by omega), fun i hi w => hv i (by omega) w⟩
    rw [e_X7_driftOn_2, if_neg (by omega)]
  | succ mm ih =>
    intro k n g e1 e2 fr hv
    obtain ⟨n, rfl⟩ : ∃ n', n = n' + 1 := ⟨n - 1, by omega⟩
    have g6 : g 131 6 = h 131 6 := fr _ _ (by omega)
    have th := isThC_e (n := n) (i := k) (h := g) (by rw [g6]; exact hb) (by omega)
    rw [g6] at th
    obtain ⟨p1, p2, p3, p4, p5, p6, p7, p8, p9, p10, p11⟩ := id H.2.1
    have Hg : dC b e t d g := H.fr (fun a j w => fr a j (by omega))
    by_cases w : bt (h 131 6) k = true
    · rw [if_pos w] at th
      have gk : g 132 k = h 132 k := fr _ _ (by omega)
      have gd : g 134 k = h 134 k := fr _ _ (by omega)
      have dc := drC_e (n := n) (s := h 134 k) Hg.2.2.2.2.1.1 Hg.2.2.2.2.1.2.1 hT.1.1 hT.1.2.1 (hp k (by omega) w)
      obtain ⟨h2, f1, f2, f3⟩ := ih (k + 1) n (zup g 132 k (drV (t 0) (t 1) (h 132 k) (h 134 k))) (by omega) (by omega) (fun a j q => by rw [zup_ne (by omega)]; exact fr a j (by omega)) (fun i hi q => by
        by_cases y : i = k
        · rw [y, zup_at]
        · rw [zup_ne (by omega)]; exact hv i (by omega) q)
      refine ⟨h2, ?_, f2, f3⟩
      rw [e_X7_driftOn_2, if_pos (by omega), th, xb_some, if_neg (by decide), xg_pos (by rw [fr _ _ (by omega)]; exact p6), xg_pos (by rw [fr _ _ (by omega)]; exact p6), xg_pos (by omega), xg_pos (by rw [fr _ _ (by omega)]; exact p8), xg_pos (by omega), Int.toNat_natCast k, gk, gd, dc, xb_some, xg_pos (by omega), xg_pos (by omega), show (k : Int) + 1 = ((k + 1 : Nat) : Int) by omega]
      exact f1
    · rw [if_neg w] at th
      obtain ⟨h2, f1, f2, f3⟩ := ih (k + 1) n g (by omega) (by omega) (fun a j q => fr a j (by omega)) (fun i hi q => by
        by_cases y : i = k
        · rw [y] at q; exact absurd q w
        · exact hv i (by omega) q)
      refine ⟨h2, ?_, f2, f3⟩
      rw [e_X7_driftOn_2, if_pos (by omega), th, xb_some, if_pos rfl, xg_pos (by omega), show (k : Int) + 1 = ((k + 1 : Nat) : Int) by omega]
      exact f1
theorem drift2 {b e s dd : Nat} {t d : Nat → Int} {K : Int} {S q c : Nat} {p : Nat → Int} {h g : yH} {n m : Nat} (H : dR b e s dd t d K S q c p h g) (hT : dT t d) (hn : 7 ≤ n) (hm : 7 ≤ m) :
    ∃ h2 g2, f_X7_driftOn n [131, (b : Int)] h = some (0, h2) ∧ f_X12_driftAll m [35] g = some (0, g2) ∧ dR b e s dd t d K S q c p h2 g2 ∧ (∀ a j, a ≠ 132 → h2 a j = h a j) ∧ ∀ a j, a ≠ 13 → g2 a j = g a j := by
  obtain ⟨k1, k2, k3, k4, k5⟩ := id H
  obtain ⟨S6, s1, s2, s3, s4⟩ := id k4
  have z0 : bU t p 0 = t 0 := bU_n (by omega)
  have z1 : bU t p 1 = t 1 := bU_n (by omega)
  have v := k2.1
  have hpos : ∀ i, i < S → 0 ≤ g 13 i ∧ g 13 i < t 0 * t 1 := fun i hi => ((s4 i (by omega)).2.1 hi).1.1
  have hdrv : ∀ i, i < S → 0 ≤ g 15 i ∧ g 15 i ≤ 4 := fun i hi => ((s4 i (by omega)).2.1 hi).1.2.2.1
  obtain ⟨g2, r1, r2, r3⟩ := drift_e (n := m) (S := S) (g := g) (pos := g 13) (drv := g 15) hm hT.1.1 hT.1.2.1 S6 hpos hdrv v.1.2.2.2 (v.2.2.1.trans z0) (v.2.2.2.1.trans z1) s2 (fun _ _ => rfl) (fun _ _ => rfl)
  obtain ⟨h2, f1, f2, f3⟩ := driftC_l k1 hT s3 (fun i hi w => by
    obtain ⟨a1, a2, -⟩ := s4 i hi
    obtain ⟨b1, b2⟩ := a1.mp w
    rw [((a2 b1).2 b2).1]
    exact hpos i b1) 6 0 n h rfl (by omega) (fun _ _ _ => rfl) (fun i hi => absurd hi (by omega))
  have r4 : ∀ a j, a ≠ 13 → g2 a j = g a j := fun a j w => r3 a j (by omega)
  refine ⟨h2, g2, ?_, r1, ⟨k1.fr (fun a j w => f2 a j (by omega)), k2.fr (fun a j w => r4 a j (by omega)), ?_, ⟨S6, by rw [f2 _ _ (by omega)]; exact s1, by rw [r4 _ _ (by omega)]; exact s2, by rw [f2 _ _ (by omega)]; exact s3, fun i hi => ?_⟩, k5.fr (Nat.le_refl _) (Nat.le_refl _) (fun a j w => f2 a j (by omega)) (fun a j w => r4 a j (by omega))⟩, f2, r4⟩
  · rw [e_X7_driftOn]
    exact f1
  · unfold dN
    rw [f2 _ _ (by omega), f2 _ _ (by omega), f2 _ _ (by omega), f2 _ _ (by omega), r4 _ _ (by omega), r4 _ _ (by omega), r4 _ _ (by omega), r4 _ _ (by omega)]
    exact k3
  · obtain ⟨a1, a2, a3⟩ := s4 i hi
    rw [f2 131 6 (by omega), r4 14 i (by omega), r4 20 i (by omega), r4 19 i (by omega), r4 16 i (by omega)]
    refine ⟨a1, fun w => ?_, a3⟩
    obtain ⟨⟨d1, d2, d3, d4, d5, d6⟩, d7⟩ := a2 w
    unfold sI
    rw [f2 133 i (by omega), f2 134 i (by omega), f2 135 i (by omega), f2 136 i (by omega), f2 137 i (by omega), r4 14 i (by omega), r4 15 i (by omega), r4 19 i (by omega), r4 16 i (by omega), r4 20 i (by omega), r2 i w]
    refine ⟨⟨drV_b hT.1.1 hT.1.2.1 d1, d2, d3, d4, d5, d6⟩, fun y => ?_⟩
    obtain ⟨e1, e2, e3, e4, e5, e6⟩ := d7 y
    refine ⟨?_, e2, e3, e4, e5, e6⟩
    rw [f3 i hi (a1.mpr ⟨w, y⟩), e1, e3]
/-- the next hour -/
theorem dR.hr {b e s dd : Nat} {t d : Nat → Int} {K : Int} {S q c : Nat} {p : Nat → Int} {h g : yH} (H : dR b e s dd t d K S q c p h g) (hk : g 35 34 + 1 ≤ 30) : dR b e s dd t d K S q c p (zup h 130 6 (h 130 6 + 1)) (zup g 35 34 (g 35 34 + 1)) := by
  obtain ⟨k1, k2, k3, k4, k5⟩ := H
  obtain ⟨n1, n2, n3, n4, n5, n6, n7, n8⟩ := k3
  refine ⟨k1.fr (fun a j w => zup_ne (by omega)), k2.fr (fun a j w => zup_ne (by unfold nqj at w; omega)), ?_, k4.fr (fun a j w => zup_ne (by omega)) (fun a j w => zup_ne (by omega)), k5.fr (Nat.le_refl _) (Nat.le_refl _) (fun a j w => zup_ne (by omega)) (fun a j w => zup_ne (by omega))⟩
  unfold dN
  rw [zup_at, zup_at, zup_ne (show ¬ (130 = 130 ∧ 7 = 6) by omega), zup_ne (show ¬ (130 = 130 ∧ 14 = 6) by omega), zup_ne (show ¬ (130 = 130 ∧ 13 = 6) by omega), zup_ne (show ¬ (35 = 35 ∧ 49 = 34) by omega), zup_ne (show ¬ (35 = 35 ∧ 50 = 34) by omega), zup_ne (show ¬ (35 = 35 ∧ 51 = 34) by omega)]
  exact ⟨by omega, by omega, n3, n4, n5, n6, n7, n8⟩
/-! a day goes on, up to a limit, on both sides -/
def frK (kk : Nat) (g g2 : yH) : Prop := (∀ a j, a ≤ 9 ∨ a = 11 ∨ a = 12 ∨ (26 ≤ a ∧ a ≤ 34) → g2 a j = g a j) ∧ ∀ a j, 21 ≤ a → a ≤ 25 → j < kk → g2 a j = g a j
def smR (b e s dd : Nat) (t d : Nat → Int) (K : Int) (q c : Nat) (x1 : Int) (n m kk lim : Nat) (h g : yH) (k2 : Nat) (h2 g2 : yH) : Prop :=
  (kk ≤ k2 ∧ k2 ≤ lim) ∧ (∃ S2 p2, dR b e s dd t d K S2 (q + 6 * (lim - kk)) (c + 4059 * (lim - kk)) p2 h2 g2) ∧ (g2 35 34 = (k2 : Int) ∧ g2 35 50 = g 35 50) ∧ frC h h2 ∧ frK kk g g2 ∧ (k2 = lim → kk < lim → rcR K d (lim - 1) h2 g2) ∧
  (k2 = lim → ∀ L : Int, (lim : Int) ≤ L → xl_X5_go n 14 [130, x1, L, 1] h = xl_X5_go (n - (lim - kk)) 14 [130, x1, L, 1] h2 ∧ xl_X12_play m 4 [35, L] g = xl_X12_play (m - (lim - kk)) 4 [35, L] g2) ∧
  (k2 < lim → ∀ L : Int, (lim : Int) ≤ L → xl_X5_go n 14 [130, x1, L, 1] h = some (0, h2) ∧ xl_X12_play m 4 [35, L] g = some ((k2 : Int), g2)) ∧ (kk = lim → h2 = h ∧ g2 = g)
theorem sim2 {b e s dd : Nat} {t d : Nat → Int} {K x1 : Int} (hT : dT t d) : ∀ (mm kk lim n m S q c : Nat) (p : Nat → Int) (h g : yH), mm + kk = lim → (lim : Int) ≤ d 0 → mm + 45 ≤ n → mm + 65 ≤ m → q + 6 * mm ≤ 900 → c + 4059 * mm ≤ 1000000 → dR b e s dd t d K S q c p h g → g 35 34 = (kk : Int) →
    ∃ k2 h2 g2, smR b e s dd t d K q c x1 n m kk lim h g k2 h2 g2 := by
  intro mm
  induction mm with
  | zero =>
    intro kk lim n m S q c p h g e1 e2 e3 e4 e5 e6 H hk
    refine ⟨kk, h, g, ⟨Nat.le_refl _, by omega⟩, ⟨S, p, H.fr (by omega) (by omega) (fun _ _ _ => rfl) (fun _ _ _ => rfl)⟩, ⟨hk, rfl⟩, frC.r, ⟨fun _ _ _ => rfl, fun _ _ _ _ _ => rfl⟩, fun _ w => by omega, fun _ L _ => ?_, fun w => by omega, fun _ => ⟨rfl, rfl⟩⟩
    rw [show n - (lim - kk) = n by omega, show m - (lim - kk) = m by omega]
    exact ⟨rfl, rfl⟩
  | succ mm ih =>
    intro kk lim n m S q c p h g e1 e2 e3 e4 e5 e6 H hk
    have d30 := hT.2.2.1
    obtain ⟨n, rfl⟩ : ∃ n', n = n' + 1 := ⟨n - 1, by omega⟩
    obtain ⟨m, rfl⟩ : ∃ m', m = m' + 1 := ⟨m - 1, by omega⟩
    obtain ⟨v, h1, g1, r1, r2, r3, ⟨S1, p1, r4⟩, ⟨r5, r6⟩, r7, r8, r9⟩ := does2 (n := n) (m := m) H hT (by omega) (by omega) hk (by omega) (by omega) (by omega)
    have h6 : h 130 6 = (kk : Int) := H.2.2.1.1.trans hk
    have C0 : ∀ L : Int, (lim : Int) ≤ L → xl_X5_go (n + 1) 14 [130, x1, L, 1] h = (if v = 0 then (xl_X5_go n 14 [130, x1, L, v] h1) else (xg (h1 130 2 = 131) (xg (0 ≤ (h1 130 0)) (xb (f_X7_driftOn n [131, (h1 130 0)] h1) (fun _ h2 => xg (-2147483648 ≤ (h2 130 6) + 1 ∧ (h2 130 6) + 1 ≤ 2147483647) (xg (0 ≤ ((h2 130 6) + 1) ∧ ((h2 130 6) + 1) ≤ 30) (xl_X5_go n 14 [130, x1, L, v] (zup h2 130 6 ((h2 130 6) + 1))))))))) := fun L hL => by
      rw [e_X5_go_14, if_neg (by decide), h6, if_pos (by omega), r1, xb_some]
    have R0 : ∀ L : Int, (lim : Int) ≤ L → xl_X12_play (m + 1) 4 [35, L] g = (if v = 0 then (some ((g1 35 34), g1)) else (xb (f_X12_driftAll m [35] g1) (fun _ h2 => xg (-2147483648 ≤ (h2 35 34) + 1 ∧ (h2 35 34) + 1 ≤ 2147483647) (xg (0 ≤ ((h2 35 34) + 1) ∧ ((h2 35 34) + 1) ≤ 30) (xl_X12_play m 4 [35, L] (zup h2 35 34 ((h2 35 34) + 1))))))) := fun L hL => by
      rw [e_X12_play_4, hk, if_pos (by omega), r2, xb_some]
    by_cases c0 : v = 0
    · obtain ⟨z, ez⟩ : ∃ z, lim - kk = z + 1 := ⟨lim - kk - 1, by omega⟩
      have lg : ∀ w z : Nat, w ≤ w * (z + 1) := fun w z => by
        have := Nat.mul_le_mul_left w (show 1 ≤ z + 1 by omega)
        rw [Nat.mul_one] at this
        exact this
      have l1 : q + 6 ≤ q + 6 * (lim - kk) := by rw [ez]; exact Nat.add_le_add_left (lg 6 z) q
      have l2 : c + 4059 ≤ c + 4059 * (lim - kk) := by rw [ez]; exact Nat.add_le_add_left (lg 4059 z) c
      have X0 := r4.fr l1 l2 (fun _ _ _ => rfl) (fun _ _ _ => rfl)
      refine ⟨kk, h1, g1, ⟨Nat.le_refl _, by omega⟩, ⟨S1, p1, X0⟩, ⟨r5.trans hk, r6⟩, r7, ⟨r8.1, fun a j w1 w2 w3 => r8.2 a j w1 w2 (by omega)⟩, fun w => by omega, fun w => by omega, fun _ L hL => ⟨?_, ?_⟩, fun w => by omega⟩
      · obtain ⟨n, rfl⟩ : ∃ n', n = n' + 1 := ⟨n - 1, by omega⟩
        rw [C0 L hL, if_pos c0, c0, e_X5_go_14, if_pos rfl]
      · rw [R0 L hL, if_pos c0, r5, hk]
    · have v1 : v = 1 := by omega
      obtain ⟨h3, g3, s1, s2, s3, s4, s5⟩ := drift2 (n := n) (m := m) r4 hT (by omega) (by omega)
      have h34 : g3 35 34 = (kk : Int) := by rw [s5 _ _ (by omega), r5]; exact hk
      have c34 : h3 130 6 = (kk : Int) := s3.2.2.1.1.trans h34
      have X := s3.hr (by omega)
      obtain ⟨k2, h2, g2, ⟨y1, y2⟩, ⟨S2, p2, y3⟩, ⟨y4, y5⟩, y6, y7, y8, y9, y10, y11⟩ := ih (kk + 1) lim n m S1 (q + 6) (c + 4059) p1 _ _ (by omega) e2 (by omega) (by omega) (by omega) (by omega) X (by rw [zup_at, h34]; omega)
      rw [c34, h34] at y9 y10 y11
      have C1 : ∀ L : Int, (lim : Int) ≤ L → xl_X5_go (n + 1) 14 [130, x1, L, 1] h = xl_X5_go n 14 [130, x1, L, 1] (zup h3 130 6 ((kk : Int) + 1)) := fun L hL => by
        rw [C0 L hL, if_neg c0, xg_pos r4.1.2.1.1, r4.1.2.2.1, xg_pos (by omega), s1, xb_some, c34, xg_pos (by omega), xg_pos (by omega), v1]
      have R1 : ∀ L : Int, (lim : Int) ≤ L → xl_X12_play (m + 1) 4 [35, L] g = xl_X12_play m 4 [35, L] (zup g3 35 34 ((kk : Int) + 1)) := fun L hL => by
        rw [R0 L hL, if_neg c0, s2, xb_some, h34, xg_pos (by omega), xg_pos (by omega)]
      refine ⟨k2, h2, g2, ⟨by omega, y2⟩, ⟨S2, p2, y3.fr (by omega) (by omega) (fun _ _ _ => rfl) (fun _ _ _ => rfl)⟩, ⟨y4, ?_⟩, ?_, ⟨fun a j w => ?_, fun a j w1 w2 w3 => ?_⟩, fun w1 w2 => ?_, fun w L hL => ?_, fun w L hL => ?_, fun w => by omega⟩
      · rw [y5, zup_ne (by omega), s5 _ _ (by omega)]; exact r6
      · refine r7.t (frC.t (fun a j w => ?_) y6)
        rw [zup_ne (by omega)]
        exact s4 a j (by omega)
      · rw [y7.1 a j w, zup_ne (by omega), s5 _ _ (by omega)]
        exact r8.1 a j w
      · rw [y7.2 a j w1 w2 (by omega), zup_ne (by omega), s5 _ _ (by omega)]
        exact r8.2 a j w1 w2 (by omega)
      · by_cases z : kk + 1 < lim
        · exact y8 w1 z
        · have zl : lim = kk + 1 := by omega
          obtain ⟨q1, q2⟩ := r9 v1
          obtain ⟨eh, eg⟩ := y11 zl.symm
          have hc : ∀ j, j ≠ 6 → h2 130 j = h1 130 j := fun j w => by
            rw [eh, zup_ne (by omega)]
            exact s4 _ _ (by omega)
          have gc : ∀ a j, a ≠ 13 → a ≠ 35 → g2 a j = g1 a j := fun a j w1 w2 => by
            rw [eg, zup_ne (by omega)]
            exact s5 _ _ w1
          rw [show lim - 1 = kk by omega]
          unfold rcR
          rw [hc 8 (by omega), hc 9 (by omega), hc 10 (by omega), hc 11 (by omega), hc 12 (by omega), gc 22 kk (by omega) (by omega), gc 21 kk (by omega) (by omega), gc 23 kk (by omega) (by omega), gc 24 kk (by omega) (by omega), gc 25 kk (by omega) (by omega)]
          exact ⟨q1, q2⟩
      · obtain ⟨z1, z2⟩ := y9 w L hL
        rw [C1 L hL, R1 L hL, z1, z2, show n + 1 - (lim - kk) = n - (lim - (kk + 1)) by omega, show m + 1 - (lim - kk) = m - (lim - (kk + 1)) by omega]
        exact ⟨rfl, rfl⟩
      · obtain ⟨z1, z2⟩ := y10 w L hL
        rw [C1 L hL, R1 L hL, z1, z2]
        exact ⟨rfl, rfl⟩
end
section
/-! a day begins, on both sides, the boats wherever they were -/
def hv0 (s : Nat) (t : Nat → Int) (g : yH) : Prop := sH s t g ∧ g 35 24 = t 0 ∧ g 35 25 = t 1 ∧ g 35 26 = t 2 ∧ g 35 27 = t 3 ∧ g 35 28 = t 6 ∧ ∀ i : Nat, (i : Int) < t 6 → g 11 i = t (32 + 3 * i)
theorem hv.z {s : Nat} {t p : Nat → Int} {g : yH} (H : hv s t (bU t p) g) (h6 : t 6 ≤ 6) : hv0 s t g := by
  obtain ⟨k1, k2, k3, k4, k5, k6, k7, k8⟩ := H
  have n : ∀ j, j < 31 → bU t p j = t j := fun j hj => bU_n (by omega)
  rw [n 0 (by omega)] at k3
  rw [n 1 (by omega)] at k4
  rw [n 2 (by omega)] at k5
  rw [n 3 (by omega)] at k6
  rw [n 6 (by omega)] at k7 k8
  refine ⟨k1, k3, k4, k5, k6, k7, fun i hi => ?_⟩
  have q := (k8 i hi).2
  rw [bU_n (by omega)] at q
  exact q
theorem begR_g {n s : Nat} {t : Nat → Int} {g : yH} (hn : 20 ≤ n) (hW : tW0 t) (H : hv0 s t g) (h29 : g 35 29 = t 5) : ∃ g2, f_X12_begin n [35] g = some (0, g2) ∧ bgR s t g g2 := by
  have w5 : 0 ≤ t 5 ∧ t 5 ≤ 4 := hW.2.2.2.2.2.1
  obtain ⟨k1, k3, k4, k5, k6, k7, k8⟩ := id H
  rw [e_X12_begin, h29, xg_pos (by omega)]
  have frA : ∀ a j, ¬ (a = 35 ∧ (j = 34 ∨ j = 35)) → (zup (zup g 35 34 0) 35 35 (t 5)) a j = g a j := fun a j w => by
    rw [zup_ne (by omega), zup_ne (by omega)]
  have a34 : (zup (zup g 35 34 0) 35 35 (t 5)) 35 34 = 0 := by rw [zup_ne (by omega), zup_at]
  have a35 : (zup (zup g 35 34 0) 35 35 (t 5)) 35 35 = t 5 := zup_at _ _ _ _
  have HA : sH s t (zup (zup g 35 34 0) 35 35 (t 5)) := k1.fr (fun a j w => frA a j (fun c => by
    rcases w with w | ⟨-, w | w⟩
    · omega
    · omega
    · have : ∀ j ∈ rQs, ¬ (j = 34 ∨ j = 35) := by decide
      exact this j w c.2))
  generalize zup (zup g 35 34 0) 35 35 (t 5) = gA at frA a34 a35 HA
  obtain ⟨g1, n1, b1, b2, b3, b4⟩ := beg_15 w5 6 0 n gA rfl (by omega) HA a35 (fun i hi => absurd hi (by omega))
  have n35 : ¬ bgK 35 := by unfold bgK; omega
  have n5 : ¬ bgK 5 := by unfold bgK; omega
  have n11 : ¬ bgK 11 := by unfold bgK; omega
  have HB : sH s t g1 := HA.fr (fun a j w => b3 a j (by
    rcases w with w | w
    · rw [w]; exact n5
    · rw [w.1]; exact n35))
  obtain ⟨g2, c1, c2, c3, c4⟩ := beg_140 hW 7 0 n1 g1 rfl hW.wd.2.2.2.2.1 (by omega) HB (by rw [b3 _ _ n35, frA _ _ (by omega)]; exact k7) (fun i hi => absurd hi (by omega))
  have frAll : ∀ a j, ¬ (bgK a ∨ a = 10 ∨ a = 17 ∨ a = 18) → ¬ (a = 35 ∧ (j = 34 ∨ j = 35 ∨ j = 49)) → g2 a j = g a j := fun a j w1 w2 => by
    rw [c2 a j (fun q => w1 (Or.inr q)) (fun q => w2 ⟨q.1, by omega⟩), b3 a j (fun q => w1 (Or.inl q)), frA a j (fun q => w2 ⟨q.1, by omega⟩)]
  have m35 : ∀ j, j ≠ 34 → j ≠ 35 → j ≠ 49 → g2 35 j = g 35 j := fun j j1 j2 j3 => frAll 35 j (fun q => by
    rcases q with q | q
    · exact n35 q
    · omega) (by omega)
  have HC : sH s t g2 := HB.fr (fun a j w => c2 a j (by omega) (fun q => by
    rcases w with w | ⟨-, w | w⟩
    · omega
    · omega
    · have : ∀ j ∈ rQs, j ≠ 49 := by decide
      exact this j w q.2))
  refine ⟨g2, ?_, ⟨HC, rfl, by rw [m35 _ (by omega) (by omega) (by omega)]; exact k3, by rw [m35 _ (by omega) (by omega) (by omega)]; exact k4, by rw [m35 _ (by omega) (by omega) (by omega)]; exact k5, by rw [m35 _ (by omega) (by omega) (by omega)]; exact k6, by rw [m35 _ (by omega) (by omega) (by omega)]; exact k7, fun i hi => ⟨(c4 i hi).1, ?_⟩⟩, ?_, ?_, c3, fun i hi => ?_, fun i hi => (c4 i hi).2, frAll⟩
  · refine (show _ = xl_X12_begin n 15 [35, ((0 : Nat) : Int)] gA from rfl).trans (b2.trans c1)
  · rw [frAll 11 i (fun q => by
      rcases q with q | q
      · exact n11 q
      · omega) (by omega)]
    exact k8 i hi
  · rw [c2 _ _ (by omega) (by omega), b3 _ _ n35]; exact a34
  · rw [c2 _ _ (by omega) (by omega), b3 _ _ n35]; exact a35
  · obtain ⟨x1, x2, x3, x4, x5, x6⟩ := b4 i hi
    exact ⟨by rw [c2 _ _ (by omega) (by omega)]; exact x1, by rw [c2 _ _ (by omega) (by omega)]; exact x2, by rw [c2 _ _ (by omega) (by omega)]; exact x3, by rw [c2 _ _ (by omega) (by omega)]; exact x4, by rw [c2 _ _ (by omega) (by omega)]; exact x5, by rw [c2 _ _ (by omega) (by omega)]; exact x6⟩
/-- the boats' cells as told -/
def pT (t : Nat → Int) : Nat → Int := fun i => t (31 + 3 * i)
theorem bU_T {t : Nat → Int} : bU t (pT t) = t := by
  funext j
  unfold bU pT
  by_cases w : 31 ≤ j ∧ j < 49 ∧ (j - 31) % 3 = 0
  · rw [if_pos w, show 31 + 3 * ((j - 31) / 3) = j by omega]
  · rw [if_neg w]
theorem bgK_n {a : Nat} (h : ¬ (13 ≤ a ∧ a ≤ 16) ∧ a ≠ 19 ∧ a ≠ 20) : ¬ bgK a := by
  unfold bgK
  omega
/-- what must be known before a day begins: of the class, of the reference -/
def bCc (b e : Nat) (t d : Nat → Int) (h : yH) : Prop := (b ≤ 30 ∧ e ≤ 50) ∧ cPr h ∧ cS b t h ∧ cSp b h ∧ cD e d h ∧ h e 1 = (e : Int) + 1 ∧ h e 2 = (e : Int) + 2
def bCr (s dd : Nat) (t d : Nat → Int) (K sd : Int) (g : yH) : Prop := hv0 s t g ∧ g 35 29 = t 5 ∧ (dd < 2 ∧ g 35 33 = (dd : Int)) ∧ (∀ j, j < 121 → g 6 (121 * dd + j) = d j) ∧ (0 ≤ K ∧ K ≤ 10) ∧ (g 35 50 = K ∨ (g 35 50 = -1 ∧ K = 0)) ∧ (1 ≤ K → sd = g 35 51)
theorem begin2 {n m b e s dd : Nat} {t d : Nat → Int} {K sd : Int} {h g : yH} (hn : 20 ≤ n) (hm : 20 ≤ m) (hT : dT t d) (C : bCc b e t d h) (R : bCr s dd t d K sd g) :
    ∃ h2 g2, f_X5_begin n [130, (b : Int), (e : Int), sd, K] h = some (0, h2) ∧ f_X12_begin m [35] g = some (0, g2) ∧ dR b e s dd t d K (t 5).toNat 0 0 (pT t) h2 g2 ∧ g2 35 34 = ((0 : Nat) : Int) ∧ g2 35 50 = g 35 50 ∧ frC h h2 ∧ frK 0 g g2 := by
  obtain ⟨⟨hb, he⟩, c1, c2, c3, c4, c5, c6⟩ := C
  obtain ⟨r1, r2, ⟨r3, r4⟩, r5, r6, r7, r8⟩ := R
  obtain ⟨h2, f1, x1, x2, x3, ⟨x4, x5, x6, x7⟩, ⟨x8, x9, x10, x11⟩, x12, x13⟩ := rbegin_e (seed := sd) (gl := K) (e := e) hn (by omega) (by omega) hT.1 c1 c2 c3
  obtain ⟨g2, f2, y1, y2, y3, y4, y5, y6, y7⟩ := begR_g hm hT.1 r1 r2
  have w5 := hT.1.sl
  have w6 := hT.1.wd.2.2.2.2
  have fh : ∀ a j, a < 130 ∨ 141 ≤ a ∨ (a = 130 ∧ (j = 2 ∨ j = 3 ∨ j = 4 ∨ j = 5 ∨ j = 15)) ∨ (a = 131 ∧ j ≤ 5) → h2 a j = h a j := fun a j w => x13 a j (by omega) (by omega) (by omega)
  have fg : ∀ a j, ¬ (a = 10 ∨ (13 ≤ a ∧ a ≤ 20)) → ¬ (a = 35 ∧ (j = 34 ∨ j = 35 ∨ j = 49)) → g2 a j = g a j := fun a j w1 w2 => y7 a j (fun q => by
    rcases q with q | q
    · exact bgK_n (by omega) q
    · omega) w2
  refine ⟨h2, g2, f1, f2, ⟨⟨⟨hb, he⟩, x1, x2, x3, c2.fr (fun a j w1 w2 => fh a j (by omega)), c3.fr (fun j _ => fh b j (by omega)), c4.fr (fun a j w1 w2 => fh a j (by omega)), by rw [fh _ _ (by omega)]; exact c5, by rw [fh _ _ (by omega)]; exact c6⟩, ⟨?_, ⟨r3, by rw [fg _ _ (by omega) (by omega)]; exact r4⟩, by rw [fg _ _ (by omega) (by omega)]; exact r2, fun j hj => by rw [fg _ _ (by omega) (by omega)]; exact r5 j hj⟩, ?_, ⟨by omega, x8, by rw [y3]; omega, x9, fun i hi => ?_⟩, fun i hi => (hT.1.bt hi).1, fun i hi => ?_⟩, y2, fg _ _ (by omega) (by omega), fun a j w => fh a j (by omega), fun a j w => fg a j (by omega) (by omega), fun a j w1 w2 w3 => by omega⟩
  · rw [bU_T]; exact y1
  · unfold dN
    rw [x4, x5, x6, x7, y2, y4, fg 35 50 (by omega) (by omega), fg 35 51 (by omega) (by omega)]
    exact ⟨rfl, ⟨by decide, by decide⟩, rfl, ⟨by decide, by decide⟩, rfl, r6, r7, r8⟩
  · obtain ⟨v1, v2, v3, v4, v5, v6⟩ := y5 i hi
    by_cases w : i < (t 5).toNat
    · have wi : (i : Int) < t 5 := by omega
      obtain ⟨s1, s2, s3⟩ := hT.1.sh (k := i) (by omega)
      have wh := hT.2.1.1 i (by omega) wi
      have e13 : v13 t i = t (19 + 3 * i) := if_pos wi
      have e14 : v14 t i = t (20 + 3 * i) := if_pos wi
      have e15 : v15 t i = t (21 + 3 * i) := if_pos wi
      rw [e13] at v1
      rw [e14] at v2
      rw [e15] at v3
      obtain ⟨u1, u2, u3, u4, u5, u6⟩ := x11 i w
      have f1 := s2.2.2 wi
      refine ⟨?_, fun _ => ?_, fun w2 => by omega⟩
      · rw [x10 i hi, v2]
        exact ⟨fun _ => ⟨w, by omega⟩, fun _ => w⟩
      · unfold sI
        rw [v1, v2, v3, v4, v5, v6, u1, u2, u3, u4, u5, u6]
        exact ⟨⟨⟨s1.1, wh⟩, ⟨by omega, by omega⟩, s3, ⟨by decide, by decide⟩, ⟨by decide, by decide⟩, by decide, by omega⟩, fun _ => ⟨rfl, rfl, rfl, rfl, rfl, rfl⟩⟩
    · refine ⟨?_, fun w2 => absurd w2 w, fun _ => ⟨v4, v5, v6⟩⟩
      rw [x10 i hi]
      exact ⟨fun w2 => absurd w2 w, fun w2 => absurd w2.1 w⟩
  · obtain ⟨b1, b2, b3⟩ := x12 i (by omega) hi
    obtain ⟨q1, q2⟩ := y6 i hi
    rw [b1, b2, b3, q1, q2]
    exact ⟨⟨rfl, hT.2.1.2 i (by omega) hi⟩, ⟨rfl, by decide, by decide⟩, rfl, by decide, by decide⟩
/-! a day up to a limit and to its end -/
theorem smR.go {b e s dd : Nat} {t d : Nat → Int} {K : Int} {q c : Nat} {x1 : Int} {n m kk lim : Nat} {h g h2 g2 : yH} {k2 : Nat} (H : smR b e s dd t d K q c x1 n m kk lim h g k2 h2 g2) (hn : lim - kk < n) (hm : lim - kk < m) : xl_X5_go n 14 [130, x1, (lim : Int), 1] h = some (0, h2) ∧ xl_X12_play m 4 [35, (lim : Int)] g = some ((k2 : Int), g2) := by
  obtain ⟨⟨y1, y2⟩, ⟨S2, p2, y3⟩, ⟨y4, y5⟩, y6, y7, y8, y9, y10, y11⟩ := H
  by_cases w : k2 = lim
  · obtain ⟨z1, z2⟩ := y9 w (lim : Int) (Int.le_refl _)
    have h6 : h2 130 6 = (lim : Int) := by rw [y3.2.2.1.1, y4, w]
    obtain ⟨n', en⟩ : ∃ n', n - (lim - kk) = n' + 1 := ⟨n - (lim - kk) - 1, by omega⟩
    obtain ⟨m', em⟩ : ∃ m', m - (lim - kk) = m' + 1 := ⟨m - (lim - kk) - 1, by omega⟩
    rw [z1, z2, en, em, e_X5_go_14, if_neg (by decide), h6, if_neg (by omega), e_X12_play_4, y4, if_neg (by omega)]
    exact ⟨rfl, rfl⟩
  · exact y10 (by omega) _ (Int.le_refl _)
/-- the end of a day against a state of it -/
theorem core2 {n m b e s dd S Z D : Nat} {t d : Nat → Int} {x1 : Int} {p : Nat → Int} {h g : yH} (hT : dT t d) (hn : 200 ≤ n) (hm : 200 ≤ m) (H : dR b e s dd t d 0 S 0 0 p h g) (h34 : g 35 34 = ((0 : Nat) : Int)) (hD : (D : Int) = d 0) (hZ : Z ≤ D) :
    ∃ k2 hE gE kZ hZ gZ, smR b e s dd t d 0 0 0 x1 n m 0 D h g k2 hE gE ∧ smR b e s dd t d 0 0 0 x1 n m 0 Z h g kZ hZ gZ ∧ (kZ = Z ↔ Z ≤ k2) ∧ (kZ = Z → ∀ a j, 21 ≤ a → a ≤ 25 → j < Z → gE a j = gZ a j) := by
  have d30 := hT.2.2.1
  obtain ⟨k2, hE, gE, r⟩ := sim2 (x1 := x1) hT D 0 D n m S 0 0 p h g (by omega) (by omega) (by omega) (by omega) (by omega) (by omega) H h34
  obtain ⟨kZ, hZ', gZ, z⟩ := sim2 (x1 := x1) hT Z 0 Z n m S 0 0 p h g (by omega) (by omega) (by omega) (by omega) (by omega) (by omega) H h34
  have rg := r.go (by omega) (by omega)
  obtain ⟨⟨y1, y2⟩, ⟨S2, p2, y3⟩, ⟨y4, y5⟩, y6, y7, y8, y9, y10, y11⟩ := id z
  by_cases w : kZ = Z
  · obtain ⟨-, z2⟩ := y9 w (D : Int) (by omega)
    obtain ⟨k3, hF, gF, f⟩ := sim2 (x1 := x1) hT (D - Z) Z D (n - (Z - 0)) (m - (Z - 0)) S2 _ _ p2 hZ' gZ (by omega) (by omega) (by omega) (by omega) (by omega) (by omega) y3 (by rw [y4, w])
    have fg := f.go (by omega) (by omega)
    obtain ⟨⟨u1, u2⟩, -, -, -, ⟨-, u7⟩, -⟩ := f
    have ee := (rg.2.symm.trans z2).trans fg.2
    have e1 : (k2 : Int) = (k3 : Int) := congrArg Prod.fst (Option.some.inj ee)
    have e2 : gE = gF := congrArg Prod.snd (Option.some.inj ee)
    refine ⟨k2, hE, gE, kZ, hZ', gZ, r, z, ⟨fun _ => by omega, fun _ => w⟩, fun _ a j w1 w2 w3 => ?_⟩
    rw [e2]
    exact u7 a j w1 w2 w3
  · obtain ⟨-, z2⟩ := y10 (by omega) (D : Int) (by omega)
    have ee := rg.2.symm.trans z2
    have e1 : (k2 : Int) = (kZ : Int) := congrArg Prod.fst (Option.some.inj ee)
    exact ⟨k2, hE, gE, kZ, hZ', gZ, r, z, ⟨fun q => absurd q w, fun q => by omega⟩, fun q => absurd q w⟩
end
