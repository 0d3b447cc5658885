section
/-! netting, gone on with -/
theorem foa_e {n a b i : Nat} {t4 : Int} {h : yH} (hp : cPr h) (h0 : h 130 0 = (b : Int)) (h4 : h b 4 = t4) (hi : i < 6) (hf : 0 ≤ h 133 i ∧ h 133 i ≤ 99) (hs : 0 ≤ h 135 i ∧ h 135 i ≤ 20) (hn : 1 ≤ t4 ∧ t4 ≤ 9) : f_X5_fishOfAnother n [130, (a : Int), (i : Int)] h = some (shr (h 130 11) (a : Int) (h 133 i) (h 135 i) t4, h) := by
  have mb := mulF_b hf hs
  obtain ⟨p1, p2, p3, p4, p5, p6, p7, p8, p9, p10, p11⟩ := hp
  rw [e_X5_fishOfAnother]
  unfold shr
  by_cases c1 : h 130 11 = -1
  · rw [if_pos c1, if_pos (Or.inl c1)]
  · rw [if_neg c1]
    by_cases c2 : h 130 11 = (a : Int)
    · rw [if_pos c2, if_pos (Or.inr c2)]
    · rw [if_neg c2, if_neg (show ¬ (h 130 11 = -1 ∨ h 130 11 = (a : Int)) by omega), xg_pos p1, xg_pos p9, xg_pos (by omega), h0, Int.toNat_natCast b, Int.toNat_natCast i, h4, xg_pos (by omega), xg_pos (by omega), if_neg (by omega), xg_pos p1, xg_pos p7, xg_pos (by omega), xg_pos (by omega), xg_pos (by omega)]
theorem dB.add {M B : Int} {q c y j : Nat} {p : Nat → Int} {x : Int} {h g : yH} (H : dB M B q c p h g) (hj : (j : Int) < B) (hx : 0 ≤ x ∧ x ≤ (y : Int)) : dB M B q (c + y) p (zup h 139 j (h 139 j + x)) (zup g 17 j (g 17 j + x)) := by
  refine ⟨H.1, fun i hi => ?_⟩
  obtain ⟨⟨a1, a2⟩, ⟨a3, a4, a5⟩, a6, a7, a8⟩ := H.2 i hi
  rw [zup_ne (show ¬ (138 = 139 ∧ i = j) by omega), zup_ne (show ¬ (140 = 139 ∧ i = j) by omega), zup_ne (show ¬ (18 = 17 ∧ i = j) by omega)]
  refine ⟨⟨a1, a2⟩, ?_, a6, a7, a8⟩
  by_cases w : i = j
  · subst w
    rw [zup_at, zup_at]
    omega
  · rw [zup_ne (by omega), zup_ne (by omega)]
    omega
theorem rem_e {n i : Nat} {h : yH} : f_X7_remove n [131, (i : Int)] h = some (0, zup h 131 6 (clr (h 131 6) i)) := by
  rw [e_X7_remove]
  rfl
/-- the class's records of a netting, the reference's -/
def nt3 (got hol gave : Int) (h : yH) : yH := zup (zup (zup h 130 11 hol) 130 10 got) 130 12 gave
def nr3 (kk : Nat) (got hol gave : Int) (g : yH) : yH := zup (zup (zup g 23 kk got) 24 kk hol) 25 kk gave
theorem nt3_ne {got hol gave : Int} {h : yH} {a j : Nat} (w : ¬ (a = 130 ∧ 10 ≤ j ∧ j ≤ 12)) : nt3 got hol gave h a j = h a j := by
  unfold nt3
  rw [zup_ne (by omega), zup_ne (by omega), zup_ne (by omega)]
theorem nr3_ne {kk : Nat} {got hol gave : Int} {g : yH} {a j : Nat} (w : ¬ (23 ≤ a ∧ a ≤ 25 ∧ j = kk)) : nr3 kk got hol gave g a j = g a j := by
  unfold nr3
  rw [zup_ne (by omega), zup_ne (by omega), zup_ne (by omega)]
theorem nt3_v {got hol gave : Int} {h : yH} : nt3 got hol gave h 130 10 = got ∧ nt3 got hol gave h 130 11 = hol ∧ nt3 got hol gave h 130 12 = gave := by
  unfold nt3
  refine ⟨?_, ?_, ?_⟩
  · rw [zup_ne (by omega), zup_at]
  · rw [zup_ne (by omega), zup_ne (by omega), zup_at]
  · rw [zup_at]
theorem nr3_v {kk : Nat} {got hol gave : Int} {g : yH} : nr3 kk got hol gave g 23 kk = got ∧ nr3 kk got hol gave g 24 kk = hol ∧ nr3 kk got hol gave g 25 kk = gave := by
  unfold nr3
  refine ⟨?_, ?_, ?_⟩
  · rw [zup_ne (by omega), zup_ne (by omega), zup_at]
  · rw [zup_ne (by omega), zup_at]
  · rw [zup_at]
/-- what a netting leaves, on both sides -/
def ntR (b e s dd : Nat) (t d : Nat → Int) (K : Int) (S q c : Nat) (p : Nat → Int) (kk : Nat) (h g h2 g2 : yH) : Prop :=
  dR b e s dd t d K S q (c + 4059) p h2 g2 ∧ (g2 35 34 = g 35 34 ∧ g2 35 50 = g 35 50) ∧ frC h h2 ∧ frR kk g g2 ∧ h2 130 10 = g2 23 kk ∧ h2 130 11 = g2 24 kk ∧ h2 130 12 = g2 25 kk
theorem ntR_of {b e s dd i kk S q c : Nat} {t d p : Nat → Int} {K got hol gave : Int} {h g hX gX : yH} (H : dR b e s dd t d K S q c p h g) (hi : i < S)
    (fX : ∀ a j, a ≠ 139 → hX a j = nt3 got hol gave h a j) (fY : ∀ a j, a ≠ 17 → gX a j = nr3 kk got hol gave g a j) (hB : dB (t 0 * t 1) (t 6) q (c + 4059) p hX gX) : ntR b e s dd t d K S q c p kk h g (zup hX 131 6 (clr (h 131 6) i)) (zup gX 14 i 0) := by
  obtain ⟨k1, k2, k3, k4, k5⟩ := H
  have S6 : S ≤ 6 := k4.1
  have fh : ∀ a j, a ≠ 139 → ¬ (a = 130 ∧ 10 ≤ j ∧ j ≤ 12) → hX a j = h a j := fun a j w1 w2 => by rw [fX a j w1, nt3_ne w2]
  have fg : ∀ a j, a ≠ 17 → ¬ (23 ≤ a ∧ a ≤ 25 ∧ j = kk) → gX a j = g a j := fun a j w1 w2 => by rw [fY a j w1, nr3_ne w2]
  obtain ⟨v1, v2, v3⟩ := nt3_v (got := got) (hol := hol) (gave := gave) (h := h)
  obtain ⟨u1, u2, u3⟩ := nr3_v (kk := kk) (got := got) (hol := hol) (gave := gave) (g := g)
  refine ⟨⟨k1.fr (fun x j w => by rw [zup_ne (by omega), fh _ _ (by omega) (by omega)]), k2.fr (fun x j w => by rw [zup_ne (by omega), fg _ _ (by omega) (by omega)]), ?_, ?_, ?_⟩, ⟨?_, ?_⟩, fun x j w => ?_, ⟨fun x j w => ?_, fun x j w1 w2 w3 => ?_⟩, ?_, ?_, ?_⟩
  · unfold dN
    have e1 : ∀ j, ¬ (10 ≤ j ∧ j ≤ 12) → (zup hX 131 6 (clr (h 131 6) i)) 130 j = h 130 j := fun j w => by rw [zup_ne (by omega), fh _ _ (by omega) (by omega)]
    have e2 : ∀ j, (zup gX 14 i 0) 35 j = g 35 j := fun j => by rw [zup_ne (by omega), fg _ _ (by omega) (by omega)]
    rw [e1 6 (by omega), e1 7 (by omega), e1 14 (by omega), e1 13 (by omega), e2, e2, e2, e2]
    exact k3
  · have D0 : dS (t 0 * t 1) (t 6) S hX gX := k4.fr (fun x j w => fh _ _ (by omega) (by omega)) (fun x j w => fg _ _ (by omega) (by omega))
    have D1 := D0.gone hi
    rw [fh 131 6 (by omega) (by omega)] at D1
    exact D1
  · exact hB.fr (Nat.le_refl _) (Nat.le_refl _) (fun x j w => zup_ne (by omega)) (fun x j w => zup_ne (by omega))
  · rw [zup_ne (by omega), fg _ _ (by omega) (by omega)]
  · rw [zup_ne (by omega), fg _ _ (by omega) (by omega)]
  · rw [zup_ne (by omega), fh _ _ (by omega) (by omega)]
  · rw [zup_ne (by omega), fg _ _ (by omega) (by omega)]
  · rw [zup_ne (by omega), fg _ _ (by omega) (by omega)]
  · rw [zup_ne (by omega), zup_ne (by omega), fX _ _ (by omega), fY _ _ (by omega), v1, u1]
  · rw [zup_ne (by omega), zup_ne (by omega), fX _ _ (by omega), fY _ _ (by omega), v2, u2]
  · rw [zup_ne (by omega), zup_ne (by omega), fX _ _ (by omega), fY _ _ (by omega), v3, u3]
theorem net2 {b e s dd a i kk n m S q c : Nat} {t d p : Nat → Int} {K : Int} {h g : yH} (H : dR b e s dd t d K S q c p h g) (hT : dT t d) (ha : (a : Int) < t 6) (hi : i < S) (h14 : 0 < g 14 i) (hk30 : kk < 30) (hc : c ≤ 1000000) :
    ∃ v h2 g2, f_X5_netShoal n [130, (a : Int), (i : Int)] h = some (v, h2) ∧ f_X12_nets m [35, (kk : Int), (a : Int), (i : Int)] g = some (v, g2) ∧ ((v = 0 ∧ h2 = h ∧ g2 = g) ∨ (v = 1 ∧ ntR b e s dd t d K S q c p kk h g h2 g2)) := by
  obtain ⟨S6, k2, k3, k4, k5⟩ := id H.2.2.2.1
  obtain ⟨-, i2, -⟩ := k5 i (by omega)
  obtain ⟨⟨d1, d2, d3, d4, d5, d6⟩, d7⟩ := i2 hi
  obtain ⟨f1, f2, f3, f4, f5, f6⟩ := d7 h14
  obtain ⟨n1, -⟩ := id H.2.2.1
  obtain ⟨p1, p2, p3, p4, p5, p6, p7, p8, p9, p10, p11⟩ := id H.1.2.1
  obtain ⟨w1, w2, w3, w4, w5⟩ := H.bp hT ha
  have hq := H.2.1.1.1.2.2.2
  have Q : ∀ {j : Nat} {k : Int}, (j, k) ∈ rQL → g 35 j = k := fun hm => H.Q hm
  obtain ⟨t1, t2⟩ := there2 (n := n) (m := m) H (show i < 6 by omega)
  rw [if_pos ⟨hi, h14⟩] at t1 t2
  have w4n : 1 ≤ t 4 ∧ t 4 ≤ 9 := hT.1.2.2.2.2.1
  have w6 := hT.1.wd.2.2.2.2
  by_cases c1 : g 13 i = g 10 a
  · have mb := mulF_b d2 d4
    have sb := shr_b (hol := hdN (g 16 i) (g 20 i) (g 35 34)) (a := (a : Int)) d2 d4 w4n
    have hb : -1 ≤ hdN (g 16 i) (g 20 i) (g 35 34) ∧ hdN (g 16 i) (g 20 i) (g 35 34) < t 6 := by
      unfold hdN
      split <;> omega
    have sz : (hdN (g 16 i) (g 20 i) (g 35 34) = -1 ∨ hdN (g 16 i) (g 20 i) (g 35 34) = (a : Int)) → shr (hdN (g 16 i) (g 20 i) (g 35 34)) (a : Int) (g 14 i) (g 19 i) (t 4) = 0 := fun w => if_pos w
    have hof := of_e (n := m) (x := 4) H.2.1.1.1 (k := 4) rfl (by omega)
    have eR : f_X12_nets m [35, (kk : Int), (a : Int), (i : Int)] g = xq_X12_nets_74 m [35, (kk : Int), (a : Int), (i : Int), hdN (g 16 i) (g 20 i) (g 35 34), shr (hdN (g 16 i) (g 20 i) (g 35 34)) (a : Int) (g 14 i) (g 19 i) (t 4)] g := by
      rw [e_X12_nets, t2, xb_some, if_neg (by decide), xg_pos (Q (j := 36) (k := 13) (by decide)), xg_pos (by omega), xg_pos (Q (j := 30) (k := 10) (by decide)), xg_pos (by omega), Int.toNat_natCast i, Int.toNat_natCast a, if_pos c1, holderNow_e hq (by omega), xb_some]
      unfold shr
      generalize hdN (g 16 i) (g 20 i) (g 35 34) = hol
      by_cases e1 : hol = -1
      · rw [if_pos e1, if_pos (Or.inl e1)]
      · rw [if_neg e1]
        by_cases e2 : hol = (a : Int)
        · rw [if_pos e2, if_pos (Or.inr e2)]
        · rw [if_neg e2, if_neg (show ¬ (hol = -1 ∨ hol = (a : Int)) by omega), xg_pos (Q (j := 37) (k := 14) (by decide)), xg_pos (by omega), xg_pos (Q (j := 40) (k := 19) (by decide)), xg_pos (by omega), xg_pos (by omega), xg_pos (Q (j := 40) (k := 19) (by decide)), xg_pos (by omega), hof, xb_some, xg_pos (by omega), xg_pos (by omega)]
    have eR2 : ∀ y0 sh hol : Int, 0 ≤ sh ∧ sh ≤ 1980 → xq_X12_nets_74 m [35, (kk : Int), (a : Int), (i : Int), hol, sh] g = xq_X12_nets_121 m [35, (kk : Int), (a : Int), (i : Int), hol, sh, (if hol = (a : Int) then g 14 i - sh else sh), (kk : Int), 25] (zup (zup g 23 kk (g 14 i - sh)) 24 kk hol) := by
      intro y0 sh hol hs
      rw [e_X12_nets_74, xg_pos (Q (j := 46) (k := 23) (by decide)), xg_pos (Q (j := 37) (k := 14) (by decide)), xg_pos (by omega), Int.toNat_natCast i, Int.toNat_natCast kk, xg_pos (by omega), xg_pos (by omega), xg_pos (Q (j := 47) (k := 24) (by decide)), xg_pos (by omega), xg_pos (Q (j := 48) (k := 25) (by decide)), zup_at]
      by_cases e2 : hol = (a : Int)
      · rw [if_pos e2, if_pos e2, xg_pos (Q (j := 46) (k := 23) (by decide)), xg_pos (by omega)]
      · rw [if_neg e2, if_neg e2]
    have hA : cPr (zup h 130 11 (hdN (g 16 i) (g 20 i) (g 35 34))) := H.1.2.1.fr (fun x j w => zup_ne (by omega))
    have eF := foa_e (n := n) (a := a) (b := b) (i := i) (t4 := t 4) hA (by rw [zup_ne (by omega)]; exact H.1.2.2.1) (by rw [zup_ne (by have := H.1.1; omega)]; exact H.1.2.2.2.2.1.2.2.2.2.1) (by omega) (by rw [zup_ne (by omega), f2]; exact d2) (by rw [zup_ne (by omega), f4]; exact d4) w4n
    rw [zup_at, zup_ne (show ¬ (133 = 130 ∧ i = 11) by omega), zup_ne (show ¬ (135 = 130 ∧ i = 11) by omega), f2, f4] at eF
    have eC : f_X5_netShoal n [130, (a : Int), (i : Int)] h = xq_X5_netShoal_80 n [130, (a : Int), (i : Int), g 14 i, shr (hdN (g 16 i) (g 20 i) (g 35 34)) (a : Int) (g 14 i) (g 19 i) (t 4), (if hdN (g 16 i) (g 20 i) (g 35 34) = (a : Int) then g 14 i - shr (hdN (g 16 i) (g 20 i) (g 35 34)) (a : Int) (g 14 i) (g 19 i) (t 4) else shr (hdN (g 16 i) (g 20 i) (g 35 34)) (a : Int) (g 14 i) (g 19 i) (t 4)), 130] (zup (zup h 130 11 (hdN (g 16 i) (g 20 i) (g 35 34))) 130 10 (g 14 i - shr (hdN (g 16 i) (g 20 i) (g 35 34)) (a : Int) (g 14 i) (g 19 i) (t 4))) := by
      rw [e_X5_netShoal, xg_pos p1, xg_pos p6, xg_pos (by omega), xg_pos p2, xg_pos (by omega), Int.toNat_natCast i, Int.toNat_natCast a, f1, H.hp a ha, if_pos (c1.trans w1), xg_pos p1, xg_pos p7, xg_pos (by omega), xg_pos p1, holderAt_e H.1.2.1 (by omega), xb_some, f5, f6, n1, xg_pos (by omega), eF, xb_some, f2, xg_pos (by omega), zup_at]
      by_cases e2 : hdN (g 16 i) (g 20 i) (g 35 34) = (a : Int)
      · rw [if_pos e2, if_pos e2]
      · rw [if_neg e2, if_neg e2]
    have sb2 : 0 ≤ shr (hdN (g 16 i) (g 20 i) (g 35 34)) (a : Int) (g 14 i) (g 19 i) (t 4) ∧ shr (hdN (g 16 i) (g 20 i) (g 35 34)) (a : Int) (g 14 i) (g 19 i) (t 4) ≤ 1980 := ⟨sb.1, by omega⟩
    rw [eR2 0 _ _ sb2] at eR
    generalize shr (hdN (g 16 i) (g 20 i) (g 35 34)) (a : Int) (g 14 i) (g 19 i) (t 4) = sh at *
    generalize hdN (g 16 i) (g 20 i) (g 35 34) = hol at *
    generalize (if hol = (a : Int) then g 14 i - sh else sh) = gave at *
    obtain ⟨B1, B2⟩ := id H.2.2.2.2
    obtain ⟨-, ⟨x3, x4, x5⟩, -⟩ := B2 a ha
    have B3 : dB (t 0 * t 1) (t 6) q c p (nt3 (g 14 i - sh) hol gave h) (nr3 kk (g 14 i - sh) hol gave g) := H.2.2.2.2.fr (Nat.le_refl _) (Nat.le_refl _) (fun x j w => nt3_ne (by omega)) (fun x j w => nr3_ne (by omega))
    have B4 := B3.add (j := a) (y := 2079) (x := g 14 i - sh) ha (by omega)
    obtain ⟨v1, v2, v3⟩ := nt3_v (got := g 14 i - sh) (hol := hol) (gave := gave) (h := h)
    have eh : zup (zup (zup h 130 11 hol) 130 10 (g 14 i - sh)) 130 12 gave = nt3 (g 14 i - sh) hol gave h := rfl
    have eg : zup (zup (zup g 23 kk (g 14 i - sh)) 24 kk hol) 25 kk gave = nr3 kk (g 14 i - sh) hol gave g := rfl
    have q139 : ∀ j, nt3 (g 14 i - sh) hol gave h 139 j = h 139 j := fun j => nt3_ne (by omega)
    have q17 : ∀ j, nr3 kk (g 14 i - sh) hol gave g 17 j = g 17 j := fun j => nr3_ne (by omega)
    have q14 : ∀ j, (zup (zup g 23 kk (g 14 i - sh)) 24 kk hol) 14 j = g 14 j := fun j => by rw [zup_ne (by omega), zup_ne (by omega)]
    have q17b : ∀ j, (zup (zup g 23 kk (g 14 i - sh)) 24 kk hol) 17 j = g 17 j := fun j => by rw [zup_ne (by omega), zup_ne (by omega)]
    have q35 : ∀ j, (zup (zup g 23 kk (g 14 i - sh)) 24 kk hol) 35 j = g 35 j := fun j => by rw [zup_ne (by omega), zup_ne (by omega)]
    rw [q139, q17] at B4
    have n4 : nt3 (g 14 i - sh) hol gave h 130 4 = 139 := by rw [nt3_ne (by omega)]; exact p3
    have n2 : nt3 (g 14 i - sh) hol gave h 130 2 = 131 := by rw [nt3_ne (by omega)]; exact p1
    have n6 : ∀ z, (zup (nt3 (g 14 i - sh) hol gave h) 139 a z) 131 6 = h 131 6 := fun z => by rw [zup_ne (by omega), nt3_ne (by omega)]
    have eC3 : ∀ r : yO, (if hol = -1 then (xg (nt3 (g 14 i - sh) hol gave h 130 2 = 131) (xb (f_X7_remove n [131, (i : Int)] (zup (nt3 (g 14 i - sh) hol gave h) 139 a (h 139 a + (g 14 i - sh)))) (fun _ h2 => some (1, h2)))) else (if hol = (a : Int) then (xg (nt3 (g 14 i - sh) hol gave h 130 2 = 131) (xb (f_X7_remove n [131, (i : Int)] (zup (nt3 (g 14 i - sh) hol gave h) 139 a (h 139 a + (g 14 i - sh)))) (fun _ h3 => some (1, h3)))) else (xg (nt3 (g 14 i - sh) hol gave h 130 4 = 139) (xg (0 ≤ hol ∧ hol < 6) (xg (-2147483648 ≤ ((zup (nt3 (g 14 i - sh) hol gave h) 139 a (h 139 a + (g 14 i - sh))) 139 hol.toNat) + sh ∧ ((zup (nt3 (g 14 i - sh) hol gave h) 139 a (h 139 a + (g 14 i - sh))) 139 hol.toNat) + sh ≤ 2147483647) (xg (0 ≤ hol ∧ hol < 6) (xg (nt3 (g 14 i - sh) hol gave h 130 2 = 131) (xb (f_X7_remove n [131, (i : Int)] (zup (zup (nt3 (g 14 i - sh) hol gave h) 139 a (h 139 a + (g 14 i - sh))) 139 hol.toNat (((zup (nt3 (g 14 i - sh) hol gave h) 139 a (h 139 a + (g 14 i - sh))) 139 hol.toNat) + sh))) (fun _ h4 => some (1, h4)))))))))) = r → f_X5_netShoal n [130, (a : Int), (i : Int)] h = r := by
      intro r e
      rw [eC, e_X5_netShoal_80, show (130 : Int).toNat = 130 from rfl, xh_e, eh, xg_pos n4, xg_pos (by omega), Int.toNat_natCast a, q139, v1, v2, xg_pos (by omega), xg_pos (by omega)]
      exact e
    have eR3 : ∀ r : yO, (if 0 < sh then (xg (g 35 42 = 17) (xg (0 ≤ hol ∧ hol < 6) (xg (-2147483648 ≤ ((zup (nr3 kk (g 14 i - sh) hol gave g) 17 a (g 17 a + (g 14 i - sh))) 17 hol.toNat) + sh ∧ ((zup (nr3 kk (g 14 i - sh) hol gave g) 17 a (g 17 a + (g 14 i - sh))) 17 hol.toNat) + sh ≤ 2147483647) (xg (0 ≤ hol ∧ hol < 6) (xg (g 35 37 = 14) (xg (0 ≤ (i : Int) ∧ (i : Int) < 6) (some (1, zup (zup (zup (nr3 kk (g 14 i - sh) hol gave g) 17 a (g 17 a + (g 14 i - sh))) 17 hol.toNat (((zup (nr3 kk (g 14 i - sh) hol gave g) 17 a (g 17 a + (g 14 i - sh))) 17 hol.toNat) + sh)) 14 i 0)))))))) else (xg (g 35 37 = 14) (xg (0 ≤ (i : Int) ∧ (i : Int) < 6) (some (1, zup (zup (nr3 kk (g 14 i - sh) hol gave g) 17 a (g 17 a + (g 14 i - sh))) 14 i 0))))) = r → f_X12_nets m [35, (kk : Int), (a : Int), (i : Int)] g = r := by
      intro r e
      rw [eR, e_X12_nets_121, q35, q35, q14, q17b, Int.toNat_natCast kk, Int.toNat_natCast i, Int.toNat_natCast a, eg, xg_pos (by omega), xg_pos (Q (j := 42) (k := 17) (by decide)), xg_pos (by omega), xg_pos (Q (j := 37) (k := 14) (by decide)), xg_pos (by omega), xg_pos (by omega), xg_pos (by omega), xg_pos (by omega)]
      exact e
    clear eC eR eR2 eF
    by_cases e1 : hol = -1 ∨ hol = (a : Int)
    · have z := sz e1
      refine ⟨1, zup (zup (nt3 (g 14 i - sh) hol gave h) 139 a (h 139 a + (g 14 i - sh))) 131 6 (clr (h 131 6) i), zup (zup (nr3 kk (g 14 i - sh) hol gave g) 17 a (g 17 a + (g 14 i - sh))) 14 i 0, eC3 _ ?_, eR3 _ ?_, Or.inr ⟨rfl, ntR_of (got := g 14 i - sh) (hol := hol) (gave := gave) H hi (fun x j w => zup_ne (by omega)) (fun x j w => zup_ne (by omega)) (B4.fr (Nat.le_refl _) (by omega) (fun _ _ _ => rfl) (fun _ _ _ => rfl))⟩⟩
      · by_cases e2 : hol = -1
        · rw [if_pos e2, xg_pos n2, rem_e, xb_some, n6]
        · rw [if_neg e2, if_pos (by omega), xg_pos n2, rem_e, xb_some, n6]
      · rw [if_neg (by omega), xg_pos (Q (j := 37) (k := 14) (by decide)), xg_pos (by omega)]
    · obtain ⟨w, rfl⟩ : ∃ w : Nat, hol = (w : Int) := ⟨hol.toNat, by omega⟩
      obtain ⟨-, ⟨y3, y4, y5⟩, -⟩ := B2 w (by omega)
      have B5 := B4.add (j := w) (y := 1980) (x := sh) (by omega) (by omega)
      have c139 : (zup (nt3 (g 14 i - sh) (w : Int) gave h) 139 a (h 139 a + (g 14 i - sh))) 139 w = h 139 w := by rw [zup_ne (by omega), q139]
      have c17 : (zup (nr3 kk (g 14 i - sh) (w : Int) gave g) 17 a (g 17 a + (g 14 i - sh))) 17 w = g 17 w := by rw [zup_ne (by omega), q17]
      have c6 : ∀ z, (zup (zup (nt3 (g 14 i - sh) (w : Int) gave h) 139 a (h 139 a + (g 14 i - sh))) 139 w z) 131 6 = h 131 6 := fun z => by rw [zup_ne (by omega), n6]
      rw [c139, c17] at B5
      rw [Int.toNat_natCast w, c139] at eC3
      rw [Int.toNat_natCast w, c17] at eR3
      refine ⟨1, zup (zup (zup (nt3 (g 14 i - sh) (w : Int) gave h) 139 a (h 139 a + (g 14 i - sh))) 139 w (h 139 w + sh)) 131 6 (clr (h 131 6) i), zup (zup (zup (nr3 kk (g 14 i - sh) (w : Int) gave g) 17 a (g 17 a + (g 14 i - sh))) 17 w (g 17 w + sh)) 14 i 0, eC3 _ ?_, eR3 _ ?_, Or.inr ⟨rfl, ntR_of (got := g 14 i - sh) (hol := (w : Int)) (gave := gave) H hi (fun x j w => by rw [zup_ne (by omega), zup_ne (by omega)]) (fun x j w => by rw [zup_ne (by omega), zup_ne (by omega)]) (B5.fr (Nat.le_refl _) (by omega) (fun _ _ _ => rfl) (fun _ _ _ => rfl))⟩⟩
      · rw [if_neg (by omega), if_neg (by omega), xg_pos n4, xg_pos (by omega), xg_pos (by omega), xg_pos (by omega), xg_pos n2, rem_e, xb_some, c6]
      · by_cases e3 : 0 < sh
        · rw [if_pos e3, xg_pos (Q (j := 42) (k := 17) (by decide)), xg_pos (by omega), xg_pos (by omega), xg_pos (by omega), xg_pos (Q (j := 37) (k := 14) (by decide)), xg_pos (by omega)]
        · have z : sh = 0 := by omega
          have y : zup (zup (nr3 kk (g 14 i - sh) (w : Int) gave g) 17 a (g 17 a + (g 14 i - sh))) 17 w (g 17 w + sh) = zup (nr3 kk (g 14 i - sh) (w : Int) gave g) 17 a (g 17 a + (g 14 i - sh)) := by
            have e : g 17 w + sh = (zup (nr3 kk (g 14 i - sh) (w : Int) gave g) 17 a (g 17 a + (g 14 i - sh))) 17 w := by
              rw [c17]
              omega
            rw [e, zup_self]
          rw [if_neg e3, xg_pos (Q (j := 37) (k := 14) (by decide)), xg_pos (by omega), y]
  · refine ⟨0, h, g, ?_, ?_, Or.inl ⟨rfl, rfl, rfl⟩⟩
    · rw [e_X5_netShoal, xg_pos p1, xg_pos p6, xg_pos (by omega), xg_pos p2, xg_pos (by omega), Int.toNat_natCast i, Int.toNat_natCast a, f1, H.hp a ha, if_neg (fun w => c1 (w.trans w1.symm))]
    · rw [e_X12_nets, t2, xb_some, if_neg (by decide), xg_pos (Q (j := 36) (k := 13) (by decide)), xg_pos (by omega), xg_pos (Q (j := 30) (k := 10) (by decide)), xg_pos (by omega), Int.toNat_natCast i, Int.toNat_natCast a, if_neg c1]
end
section
/-! one deed on both sides -/
theorem deedOf_e {m s dd kk w : Nat} {t d u : Nat → Int} {g : yH} (H : dG s dd t d u g) (hk : kk < 30) (hw : w < 4) : f_X12_deedOf m [35, (kk : Int), (w : Int)] g = some (d (1 + 4 * kk + w), g) := by
  obtain ⟨k1, ⟨k2, k3⟩, -, k4⟩ := H
  rw [e_X12_deedOf, xg_pos (k1.1.2.2.2.p (j := 7) (k := 6) (by decide)), k3, xg_pos (by omega), xg_pos (by omega), xg_pos (by omega), xg_pos (by omega), xg_pos (by omega), xg_pos (by omega), show (121 * (dd : Int) + 1 + 4 * (kk : Int) + (w : Int)).toNat = 121 * dd + (1 + 4 * kk + w) by omega, k4 _ (by omega)]
theorem numC_e {n b e kk : Nat} {t d : Nat → Int} {h : yH} (H : dC b e t d h) (hk : (kk : Int) < d 0) (hk30 : kk < 30) : f_X1_numberOf n [(e : Int), (kk : Int), 0] h = some (d (2 + 4 * kk), h) ∧ f_X1_numberOf n [(e : Int), (kk : Int), 1] h = some (d (3 + 4 * kk), h) ∧ f_X1_numberOf n [(e : Int), (kk : Int), 2] h = some (d (4 + 4 * kk), h) := by
  obtain ⟨-, k1, k2, k3, k4, k5, k6, k7, k8⟩ := H
  obtain ⟨-, q2, q3, q4⟩ := k6.2 kk hk
  have e2 : ((e : Int) + 2).toNat = e + 2 := by omega
  refine ⟨?_, ?_, ?_⟩
  · rw [e_X1_numberOf, Int.toNat_natCast e, xg_pos k8, xg_pos (by omega), xg_pos (by omega), xg_pos (by omega), e2, show (3 * (kk : Int) + 0).toNat = 3 * kk by omega, q2]
  · rw [e_X1_numberOf, Int.toNat_natCast e, xg_pos k8, xg_pos (by omega), xg_pos (by omega), xg_pos (by omega), e2, show (3 * (kk : Int) + 1).toNat = 3 * kk + 1 by omega, q3]
  · rw [e_X1_numberOf, Int.toNat_natCast e, xg_pos k8, xg_pos (by omega), xg_pos (by omega), xg_pos (by omega), e2, show (3 * (kk : Int) + 2).toNat = 3 * kk + 2 by omega, q4]
/-- the records of a deed -/
def rcR (K : Int) (d : Nat → Int) (kk : Nat) (h g : yH) : Prop := (K < 1 → d (1 + 4 * kk) = 1 ∨ d (1 + 4 * kk) = 2 → h 130 8 = g 22 kk ∧ h 130 9 = g 21 kk) ∧ (d (1 + 4 * kk) = 4 → h 130 10 = g 23 kk ∧ h 130 11 = g 24 kk ∧ h 130 12 = g 25 kk)
/-- what a deed leaves -/
def dsR (b e s dd : Nat) (t d : Nat → Int) (K : Int) (q c kk : Nat) (h g : yH) (v : Int) (h2 g2 : yH) : Prop :=
  (v = 0 ∨ v = 1) ∧ (∃ S2 p2, dR b e s dd t d K S2 (q + 6) (c + 4059) p2 h2 g2) ∧ (g2 35 34 = g 35 34 ∧ g2 35 50 = g 35 50) ∧ frC h h2 ∧ frR kk g g2 ∧ (v = 1 → rcR K d kk h2 g2)
theorem does2 {b e s dd kk n m S q c : Nat} {t d p : Nat → Int} {K : Int} {h g : yH} (H : dR b e s dd t d K S q c p h g) (hT : dT t d) (hn : 40 ≤ n) (hm : 60 ≤ m) (hk : g 35 34 = (kk : Int)) (hkd : (kk : Int) < d 0) (hq : q ≤ 900) (hc : c ≤ 1000000) :
    ∃ v h2 g2, f_X5_doDeed n [130] h = some (v, h2) ∧ f_X12_does m [35, (kk : Int)] g = some (v, g2) ∧ dsR b e s dd t d K q c kk h g v h2 g2 := by
  have d30 := hT.2.2.1
  have hk30 : kk < 30 := by omega
  have wd := (hT.2.2.2 kk hk30).1 hkd
  obtain ⟨hbe, k1, k2, k3, k4, k5, k6, k7, k8⟩ := id H.1
  obtain ⟨n1, -⟩ := id H.2.2.1
  have h6 : h 130 6 = (kk : Int) := n1.trans hk
  have hkd0 := (k6.2 kk hkd).1
  have e1' : ((e : Int) + 1).toNat = e + 1 := by omega
  obtain ⟨N0, N1, N2⟩ := numC_e (n := n) H.1 hkd hk30
  have Q : ∀ {j : Nat} {k : Int}, (j, k) ∈ rQL → g 35 j = k := fun hm => H.Q hm
  have D0 := deedOf_e (m := m) (w := 0) H.2.1 hk30 (by decide)
  have D1 := deedOf_e (m := m) (w := 1) H.2.1 hk30 (by decide)
  have D2 := deedOf_e (m := m) (w := 2) H.2.1 hk30 (by decide)
  rw [show ((0 : Nat) : Int) = 0 from rfl, Nat.add_zero] at D0
  rw [show ((1 : Nat) : Int) = 1 from rfl, show 1 + 4 * kk + 1 = 2 + 4 * kk by omega] at D1
  rw [show ((2 : Nat) : Int) = 2 from rfl, show 1 + 4 * kk + 2 = 3 + 4 * kk by omega] at D2
  have gz_ne : ∀ x j, ¬ ((x = 21 ∨ x = 22) ∧ j = kk) → (zup (zup g 21 kk 0) 22 kk 0) x j = g x j := fun x j w => by rw [zup_ne (by omega), zup_ne (by omega)]
  have gz21 : (zup (zup g 21 kk 0) 22 kk 0) 21 kk = 0 := by rw [zup_ne (by omega), zup_at]
  have gz22 : (zup (zup g 21 kk 0) 22 kk 0) 22 kk = 0 := zup_at _ _ _ _
  have Hz : dR b e s dd t d K S q c p h (zup (zup g 21 kk 0) 22 kk 0) := H.fr (Nat.le_refl _) (Nat.le_refl _) (fun _ _ _ => rfl) (fun x j w => gz_ne x j (by unfold nR at w; omega))
  have frz : frR kk g (zup (zup g 21 kk 0) 22 kk 0) := ⟨fun x j w => gz_ne x j (by omega), fun x j w1 w2 w3 => gz_ne x j (by omega)⟩
  have D3 := deedOf_e (m := m) (w := 3) Hz.2.1 hk30 (by decide)
  rw [show ((3 : Nat) : Int) = 3 from rfl, show 1 + 4 * kk + 3 = 4 + 4 * kk by omega] at D3
  have Qz : ∀ {j : Nat} {k : Int}, (j, k) ∈ rQL → (zup (zup g 21 kk 0) 22 kk 0) 35 j = k := fun hm => Hz.Q hm
  have keep : ∀ {h2 g2 : yH} {S2 : Nat} {p2 : Nat → Int}, dR b e s dd t d K S2 q c p2 h2 g2 → ∃ S2 p2, dR b e s dd t d K S2 (q + 6) (c + 4059) p2 h2 g2 := fun R => ⟨_, _, R.fr (by omega) (by omega) (fun _ _ _ => rfl) (fun _ _ _ => rfl)⟩
  have z34 : (zup (zup g 21 kk 0) 22 kk 0) 35 34 = g 35 34 ∧ (zup (zup g 21 kk 0) 22 kk 0) 35 50 = g 35 50 := ⟨gz_ne _ _ (by omega), gz_ne _ _ (by omega)⟩
  have no : dsR b e s dd t d K q c kk h g 0 h (zup (zup g 21 kk 0) 22 kk 0) := ⟨Or.inl rfl, keep Hz, z34, frC.r, frz, fun w => by cases w⟩
  generalize hgz : zup (zup g 21 kk 0) 22 kk 0 = gz at *
  by_cases c5 : d (1 + 4 * kk) = 5
  · refine ⟨1, h, gz, ?_, ?_, Or.inr rfl, keep Hz, z34, frC.r, frz, fun _ => ⟨fun _ w => by omega, fun w => by omega⟩⟩
    · rw [e_X5_doDeed, k3, h6, Int.toNat_natCast e, e1', Int.toNat_natCast kk, xg_pos (by omega), xg_pos k7, xg_pos (by omega), hkd0, if_pos c5]
    · rw [e_X12_does, D0, xb_some, D1, xb_some, D2, xb_some, xg_pos (Q (j := 44) (k := 21) (by decide)), xg_pos (by omega), xg_pos (Q (j := 45) (k := 22) (by decide)), xg_pos (by omega), Int.toNat_natCast kk, if_pos c5, hgz]
  have n5 := c5
  by_cases cA : 0 ≤ d (2 + 4 * kk) ∧ d (2 + 4 * kk) < t 6
  rotate_left
  · refine ⟨0, h, gz, ?_, ?_, no⟩
    · rw [e_X5_doDeed, k3, h6, Int.toNat_natCast e, e1', Int.toNat_natCast kk, xg_pos (by omega), xg_pos k7, xg_pos (by omega), hkd0, if_neg n5, xg_pos (by omega), N0, xb_some, k3, xg_pos (by omega), h6, N1, xb_some, k2, xg_pos (by omega), hasBoat_e k4, xb_some, if_neg cA, if_pos rfl]
    · rw [e_X12_does, D0, xb_some, D1, xb_some, D2, xb_some, xg_pos (Q (j := 44) (k := 21) (by decide)), xg_pos (by omega), xg_pos (Q (j := 45) (k := 22) (by decide)), xg_pos (by omega), Int.toNat_natCast kk, if_neg n5, hgz, isBoatR_e Hz hT, xb_some, if_neg cA, if_pos rfl]
  obtain ⟨a, ea⟩ : ∃ a : Nat, d (2 + 4 * kk) = (a : Int) := ⟨(d (2 + 4 * kk)).toNat, by omega⟩
  rw [ea] at cA N0 D1
  obtain ⟨w1, w2, w3, w4, w5⟩ := Hz.bp hT cA.2
  have CC : ∀ r : yO, (if d (1 + 4 * kk) = 0 then (xb (f_X5_rowBoat n [130, (a : Int), d (3 + 4 * kk)] h) (fun v10 h10 => xg (0 ≤ v10 ∧ v10 ≤ 1) (some (v10, h10)))) else (if d (1 + 4 * kk) = 2 then (xg (h 130 2 = 131) (xb (f_X5_claimShoals n [130, (a : Int), (h 131 6), d (3 + 4 * kk)] h) (fun _ h9 => some (1, h9)))) else (xg (h 130 2 = 131) (xb (f_X7_isThere n [131, d (3 + 4 * kk)] h) (fun v4 h4 => if v4 = 0 then (some (0, h4)) else (if d (1 + 4 * kk) = 1 then (xg (0 ≤ (h4 130 1)) (xb (f_X1_numberOf n [(h4 130 1), (h4 130 6), 2] h4) (fun v7 h7 => xb (f_X5_claimShoals n [130, (a : Int), (yari 5 1 (d (3 + 4 * kk))), v7] h7) (fun _ h8 => some (1, h8))))) else (if d (1 + 4 * kk) = 3 then (xb (f_X5_splitShoal n [130, (a : Int), d (3 + 4 * kk)] h4) (fun v6 h6 => xg (0 ≤ v6 ∧ v6 ≤ 1) (some (v6, h6)))) else (xb (f_X5_netShoal n [130, (a : Int), d (3 + 4 * kk)] h4) (fun v5 h5 => xg (0 ≤ v5 ∧ v5 ≤ 1) (some (v5, h5))))))))))) = r → f_X5_doDeed n [130] h = r := by
    intro r er
    rw [e_X5_doDeed, k3, h6, Int.toNat_natCast e, e1', Int.toNat_natCast kk, xg_pos (by omega), xg_pos k7, xg_pos (by omega), hkd0, if_neg n5, xg_pos (by omega), N0, xb_some, k3, xg_pos (by omega), h6, N1, xb_some, k2, xg_pos (by omega), hasBoat_e k4, xb_some, if_pos cA, if_neg (by decide)]
    exact er
  have RC : ∀ r : yO, (if d (1 + 4 * kk) = 0 then (xg (gz 35 30 = 10) (xg (0 ≤ (a : Int) ∧ (a : Int) < 6) (xb (f_X12_beside m [35, (gz 10 a), d (3 + 4 * kk)] gz) (fun v12 h12 => xg (h12 35 30 = 10) (if v12 = (-1) then (xg (h12 35 30 = 10) (xg (0 ≤ (a : Int) ∧ (a : Int) < 6) (xg (0 ≤ (a : Int) ∧ (a : Int) < 6) (xg (0 ≤ (h12 10 a) ∧ (h12 10 a) ≤ 63) (if v12 = (-1) then (some (0, zup h12 10 a (h12 10 a))) else (some (1, zup h12 10 a (h12 10 a)))))))) else (xg (0 ≤ (a : Int) ∧ (a : Int) < 6) (xg (0 ≤ v12 ∧ v12 ≤ 63) (if v12 = (-1) then (some (0, zup h12 10 a v12)) else (some (1, zup h12 10 a v12)))))))))) else (if d (1 + 4 * kk) = 3 then (xb (f_X12_splits m [35, (a : Int), d (3 + 4 * kk)] gz) (fun v11 h11 => xg (0 ≤ v11 ∧ v11 ≤ 1) (some (v11, h11)))) else (if d (1 + 4 * kk) = 4 then (xb (f_X12_nets m [35, (kk : Int), (a : Int), d (3 + 4 * kk)] gz) (fun v10 h10 => xg (0 ≤ v10 ∧ v10 ≤ 1) (some (v10, h10)))) else (if d (1 + 4 * kk) = 1 then (xb (f_X12_isThere m [35, d (3 + 4 * kk)] gz) (fun v7 h7 => if v7 = 0 then (xg (0 ≤ v7 ∧ v7 ≤ 1) (some (v7, h7))) else (xb (f_X12_deedOf m [35, (kk : Int), 3] h7) (fun v8 h8 => xb (f_X12_claim m [35, (kk : Int), (a : Int), d (3 + 4 * kk), v8] h8) (fun _ h9 => xg (0 ≤ v7 ∧ v7 ≤ 1) (some (v7, h9))))))) else (xg (gz 35 45 = 22) (xb (f_X12_hearersOf m [35, (a : Int)] gz) (fun v6 h6 => xg (0 ≤ (kk : Int) ∧ (kk : Int) < 30) (xl_X12_does m 182 [35, (kk : Int), d (1 + 4 * kk), (a : Int), d (3 + 4 * kk), 0] (zup h6 22 kk v6))))))))) = r → f_X12_does m [35, (kk : Int)] g = r := by
    intro r er
    rw [e_X12_does, D0, xb_some, D1, xb_some, D2, xb_some, xg_pos (Q (j := 44) (k := 21) (by decide)), xg_pos (by omega), xg_pos (Q (j := 45) (k := 22) (by decide)), xg_pos (by omega), Int.toNat_natCast kk, if_neg n5, hgz, isBoatR_e Hz hT, xb_some, if_pos cA, if_neg (by decide), Int.toNat_natCast a]
    exact er
  clear N0 N1 D0 D1 D2
  by_cases c0 : d (1 + 4 * kk) = 0
  · have hs : 0 ≤ d (3 + 4 * kk) ∧ d (3 + 4 * kk) ≤ 3 := by
      unfold tWd at wd
      omega
    obtain ⟨r1, r2, r3⟩ := row2 (n := n) (m := m) Hz hT cA.2 hs
    by_cases cb : besV (t 0) (t 1) (p a) (d (3 + 4 * kk)) = -1
    · rw [if_pos cb, if_pos cb] at r1
      refine ⟨0, h, gz, CC _ ?_, RC _ ?_, no⟩
      · rw [if_pos c0, r1, xb_some, xg_pos (by decide)]
      · rw [if_pos c0, xg_pos (Qz (j := 30) (k := 10) (by decide)), xg_pos (by omega), r2, xb_some, xg_pos (Qz (j := 30) (k := 10) (by decide)), if_pos cb, xg_pos (Qz (j := 30) (k := 10) (by decide)), xg_pos (by omega), xg_pos (by omega), w1, xg_pos w4, if_pos cb, ← w1, zup_self]
    · rw [if_neg cb, if_neg cb] at r1
      have r4 := r3.resolve_left cb
      have R := Hz.row w3 r4.1 r4.2
      refine ⟨1, zup h 138 a (besV (t 0) (t 1) (p a) (d (3 + 4 * kk))), zup gz 10 a (besV (t 0) (t 1) (p a) (d (3 + 4 * kk))), CC _ ?_, RC _ ?_, Or.inr rfl, keep R, ⟨by rw [zup_ne (by omega)]; exact z34.1, by rw [zup_ne (by omega)]; exact z34.2⟩, fun x j w => zup_ne (by omega), frz.t ⟨fun x j w => zup_ne (by omega), fun x j _ _ _ => zup_ne (by omega)⟩, fun _ => ⟨fun _ w => by omega, fun w => by omega⟩⟩
      · rw [if_pos c0, r1, xb_some, xg_pos (by decide)]
      · rw [if_pos c0, xg_pos (Qz (j := 30) (k := 10) (by decide)), xg_pos (by omega), r2, xb_some, xg_pos (Qz (j := 30) (k := 10) (by decide)), if_neg cb, xg_pos (by omega), xg_pos r4.1, if_neg cb]
  have HA : dR b e s dd t d K S q c p (zup (zup h 130 8 (hrs (bU t p) a)) 130 9 0) gz := Hz.fr (Nat.le_refl _) (Nat.le_refl _) (fun x j w => by
    unfold nC at w
    rw [zup_ne (by omega), zup_ne (by omega)]) (fun _ _ _ => rfl)
  have A8 : (zup (zup h 130 8 (hrs (bU t p) a)) 130 9 0) 130 8 = hrs (bU t p) a := by rw [zup_ne (by omega), zup_at]
  have A9 : (zup (zup h 130 8 (hrs (bU t p) a)) 130 9 0) 130 9 = 0 := zup_at _ _ _ _
  have A6 : (zup (zup h 130 8 (hrs (bU t p) a)) 130 9 0) 131 6 = h 131 6 := by rw [zup_ne (by omega), zup_ne (by omega)]
  have fA : frC h (zup (zup h 130 8 (hrs (bU t p) a)) 130 9 0) := fun x j w => by rw [zup_ne (by omega), zup_ne (by omega)]
  have hrb := hrs_b (a := a) (Hz.W hT)
  by_cases c2 : d (1 + 4 * kk) = 2
  · have hs : 0 ≤ d (3 + 4 * kk) ∧ d (3 + 4 * kk) ≤ 20 := by
      unfold tWd at wd
      omega
    have eC := claimC_e (n := n) (said := d (3 + 4 * kk)) (bits := h 131 6) Hz hT (by omega) cA.2
    have HB : dR b e s dd t d K S q c p (zup (zup h 130 8 (hrs (bU t p) a)) 130 9 0) (zup gz 22 kk (hrs (bU t p) a)) := HA.fr (Nat.le_refl _) (Nat.le_refl _) (fun _ _ _ => rfl) (fun x j w => zup_ne (by unfold nR at w; omega))
    obtain ⟨h2, g2, f1, f2, f3, f4, f5, f6⟩ := claimA_l (x2 := d (1 + 4 * kk)) hT cA.2 hs hk30 6 0 n m q _ _ rfl (by omega) (by omega) (by omega) (⟨HB, ⟨A8, A6⟩, by rw [zup_ne (by omega), z34.1]; exact hk, by rw [A9, zup_ne (by omega), gz21], fun _ => zup_at _ _ _ _⟩ : caR b e s dd t d K S q c p a kk (h 131 6) _ _)
    rw [show ((min 0 S : Nat) : Int) = 0 by omega] at f2
    rw [show ((0 : Nat) : Int) = 0 from rfl] at f1
    obtain ⟨x1, ⟨x2, x3⟩, x4, x5, x6⟩ := f3
    refine ⟨1, h2, g2, CC _ ?_, RC _ ?_, Or.inr rfl, ⟨_, _, x1.fr (Nat.le_refl _) (by omega) (fun _ _ _ => rfl) (fun _ _ _ => rfl)⟩, ⟨x4.trans hk.symm, f4.trans (by rw [zup_ne (by omega)]; exact z34.2)⟩, fA.t f5, (frz.t ⟨fun x j w => zup_ne (by omega), fun x j _ _ w => zup_ne (by omega)⟩).t f6, fun _ => ⟨fun w _ => ⟨by rw [x2, x6 w], x5⟩, fun w => by omega⟩⟩
    · rw [if_neg c0, if_pos c2, xg_pos k1.1, eC, f1, xb_some]
    · rw [if_neg c0, if_neg (by omega), if_neg (by omega), if_neg (by omega), xg_pos (Qz (j := 45) (k := 22) (by decide)), hearR_e Hz hT (by omega) cA.2, xb_some, xg_pos (by omega), f2]
  have hs : 0 ≤ d (3 + 4 * kk) ∧ d (3 + 4 * kk) ≤ 5 := by
    unfold tWd at wd
    omega
  obtain ⟨i, ei⟩ : ∃ i : Nat, d (3 + 4 * kk) = (i : Int) := ⟨(d (3 + 4 * kk)).toNat, by omega⟩
  obtain ⟨t1, t2⟩ := there2 (n := n) (m := m) Hz (show i < 6 by omega)
  rw [ei] at CC RC
  by_cases cT : i < S ∧ 0 < gz 14 i
  rotate_left
  · rw [if_neg cT] at t1 t2
    refine ⟨0, h, gz, CC _ ?_, RC _ ?_, no⟩
    · rw [if_neg c0, if_neg c2, xg_pos k1.1, t1, xb_some, if_pos rfl]
    · rw [if_neg c0]
      by_cases c3 : d (1 + 4 * kk) = 3
      · rw [if_pos c3, e_X12_splits, t2, xb_some, if_pos rfl, xb_some, xg_pos (by decide)]
      · rw [if_neg c3]
        by_cases c4 : d (1 + 4 * kk) = 4
        · rw [if_pos c4, e_X12_nets, t2, xb_some, if_pos rfl, xb_some, xg_pos (by decide)]
        · rw [if_neg c4, if_pos (by unfold tWd at wd; omega), t2, xb_some, if_pos rfl, xg_pos (by decide)]
  rw [if_pos cT] at t1 t2
  by_cases c3 : d (1 + 4 * kk) = 3
  · obtain ⟨v, h2, g2, S2, r1, r2, r3, r4, r5, r6, r7⟩ := split2 (n := n) (m := m) Hz hT cA.2 cT.1 cT.2
    refine ⟨v, h2, g2, CC _ ?_, RC _ ?_, r3, keep r4, ⟨r5.1.trans z34.1, r5.2.trans z34.2⟩, r6, frz.t ⟨fun x j w => r7 x j (by omega), fun x j _ _ _ => r7 x j (by omega)⟩, fun _ => ⟨fun _ w => by omega, fun w => by omega⟩⟩
    · rw [if_neg c0, if_neg c2, xg_pos k1.1, t1, xb_some, if_neg (by decide), if_neg (by omega), if_pos c3, r1, xb_some, xg_pos (by omega)]
    · rw [if_neg c0, if_pos c3, r2, xb_some, xg_pos (by omega)]
  by_cases c4 : d (1 + 4 * kk) = 4
  · obtain ⟨v, h2, g2, r1, r2, r3⟩ := net2 (n := n) (m := m) (kk := kk) Hz hT cA.2 cT.1 cT.2 hk30 hc
    have eCn : f_X5_doDeed n [130] h = some (v, h2) := CC _ (by
      rw [if_neg c0, if_neg c2, xg_pos k1.1, t1, xb_some, if_neg (by decide), if_neg (by omega), if_neg c3, r1, xb_some, xg_pos (by omega)])
    have eRn : f_X12_does m [35, (kk : Int)] g = some (v, g2) := RC _ (by
      rw [if_neg c0, if_neg c3, if_pos c4, r2, xb_some, xg_pos (by omega)])
    rcases r3 with ⟨y1, y2, y3⟩ | ⟨y1, y2⟩
    · refine ⟨v, h2, g2, eCn, eRn, ?_⟩
      rw [y1, y2, y3]
      exact no
    · obtain ⟨x1, x2, x3, x4, x5⟩ := y2
      exact ⟨v, h2, g2, eCn, eRn, Or.inr y1, ⟨_, _, x1.fr (by omega) (Nat.le_refl _) (fun _ _ _ => rfl) (fun _ _ _ => rfl)⟩, ⟨x2.1.trans z34.1, x2.2.trans z34.2⟩, x3, frz.t x4, fun _ => ⟨fun _ w => by omega, fun _ => x5⟩⟩
  have c1 : d (1 + 4 * kk) = 1 := by
    unfold tWd at wd
    omega
  have hs3 : 0 ≤ d (4 + 4 * kk) ∧ d (4 + 4 * kk) ≤ 20 := by
    unfold tWd at wd
    omega
  have eC := claimC_e (n := n) (said := d (4 + 4 * kk)) (bits := yari 5 1 (i : Int)) Hz hT (by omega) cA.2
  obtain ⟨h2, g2, f1, f2, f3⟩ := claim1 (n := n) (m := m) HA hT (by omega) (by omega) cA.2 cT.1 cT.2 hs3 (z34.1.trans hk) hk30 A8 (by omega)
  obtain ⟨x1, ⟨x2, x3⟩, x4, ⟨x5, x6⟩, x7, x8, x9, x10⟩ := f3
  refine ⟨1, h2, g2, CC _ ?_, RC _ ?_, Or.inr rfl, ⟨_, _, x1.fr (by omega) (by omega) (fun _ _ _ => rfl) (fun _ _ _ => rfl)⟩, ⟨x5.trans z34.1, x6.trans z34.2⟩, fA.t x9, frz.t x10, fun _ => ⟨fun w _ => ⟨by rw [x2, A8, x8 w, gz22, (sel_e hrb).2], x7 (by rw [A9, gz21])⟩, fun w => by omega⟩⟩
  · rw [if_neg c0, if_neg c2, xg_pos k1.1, t1, xb_some, if_neg (by decide), if_pos c1, k3, xg_pos (by omega), h6, N2, xb_some, eC, f1, xb_some]
  · rw [if_neg c0, if_neg c3, if_neg c4, if_pos c1, t2, xb_some, if_neg (by decide), D3, xb_some, f2, xb_some, xg_pos (by decide)]
end
section
/-! all shoals drift, on both sides -/
theorem isThC_e {n i : Nat} {h : yH} (hb : 0 ≤ h 131 6 ∧ h 131 6 ≤ 63) (hi : i < 6) : f_X7_isThere n [131, (i : Int)] h = some (if bt (h 131 6) i = true then 1 else 0, h) := by
  have qb := (bit_b hb).2 i hi
  rw [e_X7_isThere, if_neg (by omega), if_pos (by omega)]
  by_cases w : bt (h 131 6) i = true
  · rw [if_pos w, if_pos (qb.mpr w)]
  · rw [if_neg w, if_neg (fun v => w (qb.mp v))]
theorem driftC_l {b e : Nat} {t d : Nat → Int} {h : yH} (H : dC b e t d h) (hT : dT t d) (hb : 0 ≤ h 131 6 ∧ h 131 6 ≤ 63) (hp : ∀ i, i < 6 → bt (h 131 6) i = true → 0 ≤ h 132 i ∧ h 132 i < t 0 * t 1) : ∀ (mm k n : Nat) (g : yH), mm + k = 6 → mm < n → (∀ a j, ¬ (a = 132 ∧ j < k) → g a j = h a j) → (∀ i, i < k → bt (h 131 6) i = true → g 132 i = drV (t 0) (t 1) (h 132 i) (h 134 i)) →
    ∃ h2, xl_X7_driftOn n 2 [131, (b : Int), (k : Int)] g = some (0, h2) ∧ (∀ a j, a ≠ 132 → h2 a j = h a j) ∧ ∀ i, i < 6 → bt (h 131 6) i = true → h2 132 i = drV (t 0) (t 1) (h 132 i) (h 134 i) := by
  intro mm
  induction mm with
  | zero =>
    intro k n g e1 e2 fr hv
    obtain ⟨n, rfl⟩ : ∃ n', n = n' + 1 := ⟨n - 1, by omega⟩
    refine ⟨g, ?_, fun a j w => fr a j (by omega), fun i hi w => hv i (by omega) w⟩
    rw [e_X7_driftOn_2, if_neg (by omega)]
  | succ mm ih =>
    intro k n g e1 e2 fr hv
    obtain ⟨n, rfl⟩ : ∃ n', n = n' + 1 := ⟨n - 1, by omega⟩
    have g6 : g 131 6 = h 131 6 := fr _ _ (by omega)
    have th := isThC_e (n := n) (i := k) (h := g) (by rw [g6]; exact hb) (by omega)
    rw [g6] at th
    obtain ⟨p1, p2, p3, p4, p5, p6, p7, p8, p9, p10, p11⟩ := id H.2.1
    have Hg : dC b e t d g := H.fr (fun a j w => fr a j (by omega))
    by_cases w : bt (h 131 6) k = true
    · rw [if_pos w] at th
      have gk : g 132 k = h 132 k := fr _ _ (by omega)
      have gd : g 134 k = h 134 k := fr _ _ (by omega)
      have dc := drC_e (n := n) (s := h 134 k) Hg.2.2.2.2.1.1 Hg.2.2.2.2.1.2.1 hT.1.1 hT.1.2.1 (hp k (by omega) w)
      obtain ⟨h2, f1, f2, f3⟩ := ih (k + 1) n (zup g 132 k (drV (t 0) (t 1) (h 132 k) (h 134 k))) (by omega) (by omega) (fun a j q => by rw [zup_ne (by omega)]; exact fr a j (by omega)) (fun i hi q => by
        by_cases y : i = k
        · rw [y, zup_at]
        · rw [zup_ne (by omega)]; exact hv i (by omega) q)
      refine ⟨h2, ?_, f2, f3⟩
      rw [e_X7_driftOn_2, if_pos (by omega), th, xb_some, if_neg (by decide), xg_pos (by rw [fr _ _ (by omega)]; exact p6), xg_pos (by rw [fr _ _ (by omega)]; exact p6), xg_pos (by omega), xg_pos (by rw [fr _ _ (by omega)]; exact p8), xg_pos (by omega), Int.toNat_natCast k, gk, gd, dc, xb_some, xg_pos (by omega), xg_pos (by omega), show (k : Int) + 1 = ((k + 1 : Nat) : Int) by omega]
      exact f1
    · rw [if_neg w] at th
      obtain ⟨h2, f1, f2, f3⟩ := ih (k + 1) n g (by omega) (by omega) (fun a j q => fr a j (by omega)) (fun i hi q => by
        by_cases y : i = k
        · rw [y] at q; exact absurd q w
        · exact hv i (by omega) q)
      refine ⟨h2, ?_, f2, f3⟩
      rw [e_X7_driftOn_2, if_pos (by omega), th, xb_some, if_pos rfl, xg_pos (by omega), show (k : Int) + 1 = ((k + 1 : Nat) : Int) by omega]
      exact f1
theorem drift2 {b e s dd : Nat} {t d : Nat → Int} {K : Int} {S q c : Nat} {p : Nat → Int} {h g : yH} {n m : Nat} (H : dR b e s dd t d K S q c p h g) (hT : dT t d) (hn : 7 ≤ n) (hm : 7 ≤ m) :
    ∃ h2 g2, f_X7_driftOn n [131, (b : Int)] h = some (0, h2) ∧ f_X12_driftAll m [35] g = some (0, g2) ∧ dR b e s dd t d K S q c p h2 g2 ∧ (∀ a j, a ≠ 132 → h2 a j = h a j) ∧ ∀ a j, a ≠ 13 → g2 a j = g a j := by
  obtain ⟨k1, k2, k3, k4, k5⟩ := id H
  obtain ⟨S6, s1, s2, s3, s4⟩ := id k4
  have z0 : bU t p 0 = t 0 := bU_n (by omega)
  have z1 : bU t p 1 = t 1 := bU_n (by omega)
  have v := k2.1
  have hpos : ∀ i, i < S → 0 ≤ g 13 i ∧ g 13 i < t 0 * t 1 := fun i hi => ((s4 i (by omega)).2.1 hi).1.1
  have hdrv : ∀ i, i < S → 0 ≤ g 15 i ∧ g 15 i ≤ 4 := fun i hi => ((s4 i (by omega)).2.1 hi).1.2.2.1
  obtain ⟨g2, r1, r2, r3⟩ := drift_e (n := m) (S := S) (g := g) (pos := g 13) (drv := g 15) hm hT.1.1 hT.1.2.1 S6 hpos hdrv v.1.2.2.2 (v.2.2.1.trans z0) (v.2.2.2.1.trans z1) s2 (fun _ _ => rfl) (fun _ _ => rfl)
  obtain ⟨h2, f1, f2, f3⟩ := driftC_l k1 hT s3 (fun i hi w => by
    obtain ⟨a1, a2, -⟩ := s4 i hi
    obtain ⟨b1, b2⟩ := a1.mp w
    rw [((a2 b1).2 b2).1]
    exact hpos i b1) 6 0 n h rfl (by omega) (fun _ _ _ => rfl) (fun i hi => absurd hi (by omega))
  have r4 : ∀ a j, a ≠ 13 → g2 a j = g a j := fun a j w => r3 a j (by omega)
  refine ⟨h2, g2, ?_, r1, ⟨k1.fr (fun a j w => f2 a j (by omega)), k2.fr (fun a j w => r4 a j (by omega)), ?_, ⟨S6, by rw [f2 _ _ (by omega)]; exact s1, by rw [r4 _ _ (by omega)]; exact s2, by rw [f2 _ _ (by omega)]; exact s3, fun i hi => ?_⟩, k5.fr (Nat.le_refl _) (Nat.le_refl _) (fun a j w => f2 a j (by omega)) (fun a j w => r4 a j (by omega))⟩, f2, r4⟩
  · rw [e_X7_driftOn]
    exact f1
  · unfold dN
    rw [f2 _ _ (by omega), f2 _ _ (by omega), f2 _ _ (by omega), f2 _ _ (by omega), r4 _ _ (by omega), r4 _ _ (by omega), r4 _ _ (by omega), r4 _ _ (by omega)]
    exact k3
  · obtain ⟨a1, a2, a3⟩ := s4 i hi
    rw [f2 131 6 (by omega), r4 14 i (by omega), r4 20 i (by omega), r4 19 i (by omega), r4 16 i (by omega)]
    refine ⟨a1, fun w => ?_, a3⟩
    obtain ⟨⟨d1, d2, d3, d4, d5, d6⟩, d7⟩ := a2 w
    unfold sI
    rw [f2 133 i (by omega), f2 134 i (by omega), f2 135 i (by omega), f2 136 i (by omega), f2 137 i (by omega), r4 14 i (by omega), r4 15 i (by omega), r4 19 i (by omega), r4 16 i (by omega), r4 20 i (by omega), r2 i w]
    refine ⟨⟨drV_b hT.1.1 hT.1.2.1 d1, d2, d3, d4, d5, d6⟩, fun y => ?_⟩
    obtain ⟨e1, e2, e3, e4, e5, e6⟩ := d7 y
    refine ⟨?_, e2, e3, e4, e5, e6⟩
    rw [f3 i hi (a1.mpr ⟨w, y⟩), e1, e3]
/-- the next hour -/
theorem dR.hr {b e s dd : Nat} {t d : Nat → Int} {K : Int} {S q c : Nat} {p : Nat → Int} {h g : yH} (H : dR b e s dd t d K S q c p h g) (hk : g 35 34 + 1 ≤ 30) : dR b e s dd t d K S q c p (zup h 130 6 (h 130 6 + 1)) (zup g 35 34 (g 35 34 + 1)) := by
  obtain ⟨k1, k2, k3, k4, k5⟩ := H
  obtain ⟨n1, n2, n3, n4, n5, n6, n7, n8⟩ := k3
  refine ⟨k1.fr (fun a j w => zup_ne (by omega)), k2.fr (fun a j w => zup_ne (by unfold nqj at w; omega)), ?_, k4.fr (fun a j w => zup_ne (by omega)) (fun a j w => zup_ne (by omega)), k5.fr (Nat.le_refl _) (Nat.le_refl _) (fun a j w => zup_ne (by omega)) (fun a j w => zup_ne (by omega))⟩
  unfold dN
  rw [zup_at, zup_at, zup_ne (show ¬ (130 = 130 ∧ 7 = 6) by omega), zup_ne (show ¬ (130 = 130 ∧ 14 = 6) by omega), zup_ne (show ¬ (130 = 130 ∧ 13 = 6) by omega), zup_ne (show ¬ (35 = 35 ∧ 49 = 34) by omega), zup_ne (show ¬ (35 = 35 ∧ 50 = 34) by omega), zup_ne (show ¬ (35 = 35 ∧ 51 = 34) by omega)]
  exact ⟨by omega, by omega, n3, n4, n5, n6, n7, n8⟩
/-! a day goes on, up to a limit, on both sides -/
def frK (kk : Nat) (g g2 : yH) : Prop := (∀ a j, a ≤ 9 ∨ a = 11 ∨ a = 12 ∨ (26 ≤ a ∧ a ≤ 34) → g2 a j = g a j) ∧ ∀ a j, 21 ≤ a → a ≤ 25 → j < kk → g2 a j = g a j
def smR (b e s dd : Nat) (t d : Nat → Int) (K : Int) (q c : Nat) (x1 : Int) (n m kk lim : Nat) (h g : yH) (k2 : Nat) (h2 g2 : yH) : Prop :=
  (kk ≤ k2 ∧ k2 ≤ lim) ∧ (∃ S2 p2, dR b e s dd t d K S2 (q + 6 * (lim - kk)) (c + 4059 * (lim - kk)) p2 h2 g2) ∧ (g2 35 34 = (k2 : Int) ∧ g2 35 50 = g 35 50) ∧ frC h h2 ∧ frK kk g g2 ∧ (k2 = lim → kk < lim → rcR K d (lim - 1) h2 g2) ∧
  (k2 = lim → ∀ L : Int, (lim : Int) ≤ L → xl_X5_go n 14 [130, x1, L, 1] h = xl_X5_go (n - (lim - kk)) 14 [130, x1, L, 1] h2 ∧ xl_X12_play m 4 [35, L] g = xl_X12_play (m - (lim - kk)) 4 [35, L] g2) ∧
  (k2 < lim → ∀ L : Int, (lim : Int) ≤ L → xl_X5_go n 14 [130, x1, L, 1] h = some (0, h2) ∧ xl_X12_play m 4 [35, L] g = some ((k2 : Int), g2)) ∧ (kk = lim → h2 = h ∧ g2 = g)
theorem sim2 {b e s dd : Nat} {t d : Nat → Int} {K x1 : Int} (hT : dT t d) : ∀ (mm kk lim n m S q c : Nat) (p : Nat → Int) (h g : yH), mm + kk = lim → (lim : Int) ≤ d 0 → mm + 45 ≤ n → mm + 65 ≤ m → q + 6 * mm ≤ 900 → c + 4059 * mm ≤ 1000000 → dR b e s dd t d K S q c p h g → g 35 34 = (kk : Int) →
    ∃ k2 h2 g2, smR b e s dd t d K q c x1 n m kk lim h g k2 h2 g2 := by
  intro mm
  induction mm with
  | zero =>
    intro kk lim n m S q c p h g e1 e2 e3 e4 e5 e6 H hk
    refine ⟨kk, h, g, ⟨Nat.le_refl _, by omega⟩, ⟨S, p, H.fr (by omega) (by omega) (fun _ _ _ => rfl) (fun _ _ _ => rfl)⟩, ⟨hk, rfl⟩, frC.r, ⟨fun _ _ _ => rfl, fun _ _ _ _ _ => rfl⟩, fun _ w => by omega, fun _ L _ => ?_, fun w => by omega, fun _ => ⟨rfl, rfl⟩⟩
    rw [show n - (lim - kk) = n by omega, show m - (lim - kk) = m by omega]
    exact ⟨rfl, rfl⟩
  | succ mm ih =>
    intro kk lim n m S q c p h g e1 e2 e3 e4 e5 e6 H hk
    have d30 := hT.2.2.1
    obtain ⟨n, rfl⟩ : ∃ n', n = n' + 1 := ⟨n - 1, by omega⟩
    obtain ⟨m, rfl⟩ : ∃ m', m = m' + 1 := ⟨m - 1, by omega⟩
    obtain ⟨v, h1, g1, r1, r2, r3, ⟨S1, p1, r4⟩, ⟨r5, r6⟩, r7, r8, r9⟩ := does2 (n := n) (m := m) H hT (by omega) (by omega) hk (by omega) (by omega) (by omega)
    have h6 : h 130 6 = (kk : Int) := H.2.2.1.1.trans hk
    have C0 : ∀ L : Int, (lim : Int) ≤ L → xl_X5_go (n + 1) 14 [130, x1, L, 1] h = (if v = 0 then (xl_X5_go n 14 [130, x1, L, v] h1) else (xg (h1 130 2 = 131) (xg (0 ≤ (h1 130 0)) (xb (f_X7_driftOn n [131, (h1 130 0)] h1) (fun _ h2 => xg (-2147483648 ≤ (h2 130 6) + 1 ∧ (h2 130 6) + 1 ≤ 2147483647) (xg (0 ≤ ((h2 130 6) + 1) ∧ ((h2 130 6) + 1) ≤ 30) (xl_X5_go n 14 [130, x1, L, v] (zup h2 130 6 ((h2 130 6) + 1))))))))) := fun L hL => by
      rw [e_X5_go_14, if_neg (by decide), h6, if_pos (by omega), r1, xb_some]
    have R0 : ∀ L : Int, (lim : Int) ≤ L → xl_X12_play (m + 1) 4 [35, L] g = (if v = 0 then (some ((g1 35 34), g1)) else (xb (f_X12_driftAll m [35] g1) (fun _ h2 => xg (-2147483648 ≤ (h2 35 34) + 1 ∧ (h2 35 34) + 1 ≤ 2147483647) (xg (0 ≤ ((h2 35 34) + 1) ∧ ((h2 35 34) + 1) ≤ 30) (xl_X12_play m 4 [35, L] (zup h2 35 34 ((h2 35 34) + 1))))))) := fun L hL => by
      rw [e_X12_play_4, hk, if_pos (by omega), r2, xb_some]
    by_cases c0 : v = 0
    · obtain ⟨z, ez⟩ : ∃ z, lim - kk = z + 1 := ⟨lim - kk - 1, by omega⟩
      have lg : ∀ w z : Nat, w ≤ w * (z + 1) := fun w z => by
        have := Nat.mul_le_mul_left w (show 1 ≤ z + 1 by omega)
        rw [Nat.mul_one] at this
        exact this
      have l1 : q + 6 ≤ q + 6 * (lim - kk) := by rw [ez]; exact Nat.add_le_add_left (lg 6 z) q
      have l2 : c + 4059 ≤ c + 4059 * (lim - kk) := by rw [ez]; exact Nat.add_le_add_left (lg 4059 z) c
      have X0 := r4.fr l1 l2 (fun _ _ _ => rfl) (fun _ _ _ => rfl)
      refine ⟨kk, h1, g1, ⟨Nat.le_refl _, by omega⟩, ⟨S1, p1, X0⟩, ⟨r5.trans hk, r6⟩, r7, ⟨r8.1, fun a j w1 w2 w3 => r8.2 a j w1 w2 (by omega)⟩, fun w => by omega, fun w => by omega, fun _ L hL => ⟨?_, ?_⟩, fun w => by omega⟩
      · obtain ⟨n, rfl⟩ : ∃ n', n = n' + 1 := ⟨n - 1, by omega⟩
        rw [C0 L hL, if_pos c0, c0, e_X5_go_14, if_pos rfl]
      · rw [R0 L hL, if_pos c0, r5, hk]
    · have v1 : v = 1 := by omega
      obtain ⟨h3, g3, s1, s2, s3, s4, s5⟩ := drift2 (n := n) (m := m) r4 hT (by omega) (by omega)
      have h34 : g3 35 34 = (kk : Int) := by rw [s5 _ _ (by omega), r5]; exact hk
      have c34 : h3 130 6 = (kk : Int) := s3.2.2.1.1.trans h34
      have X := s3.hr (by omega)
      obtain ⟨k2, h2, g2, ⟨y1, y2⟩, ⟨S2, p2, y3⟩, ⟨y4, y5⟩, y6, y7, y8, y9, y10, y11⟩ := ih (kk + 1) lim n m S1 (q + 6) (c + 4059) p1 _ _ (by omega) e2 (by omega) (by omega) (by omega) (by omega) X (by rw [zup_at, h34]; omega)
      rw [c34, h34] at y9 y10 y11
      have C1 : ∀ L : Int, (lim : Int) ≤ L → xl_X5_go (n + 1) 14 [130, x1, L, 1] h = xl_X5_go n 14 [130, x1, L, 1] (zup h3 130 6 ((kk : Int) + 1)) := fun L hL => by
        rw [C0 L hL, if_neg c0, xg_pos r4.1.2.1.1, r4.1.2.2.1, xg_pos (by omega), s1, xb_some, c34, xg_pos (by omega), xg_pos (by omega), v1]
      have R1 : ∀ L : Int, (lim : Int) ≤ L → xl_X12_play (m + 1) 4 [35, L] g = xl_X12_play m 4 [35, L] (zup g3 35 34 ((kk : Int) + 1)) := fun L hL => by
        rw [R0 L hL, if_neg c0, s2, xb_some, h34, xg_pos (by omega), xg_pos (by omega)]
      refine ⟨k2, h2, g2, ⟨by omega, y2⟩, ⟨S2, p2, y3.fr (by omega) (by omega) (fun _ _ _ => rfl) (fun _ _ _ => rfl)⟩, ⟨y4, ?_⟩, ?_, ⟨fun a j w => ?_, fun a j w1 w2 w3 => ?_⟩, fun w1 w2 => ?_, fun w L hL => ?_, fun w L hL => ?_, fun w => by omega⟩
      · rw [y5, zup_ne (by omega), s5 _ _ (by omega)]; exact r6
      · refine r7.t (frC.t (fun a j w => ?_) y6)
        rw [zup_ne (by omega)]
        exact s4 a j (by omega)
      · rw [y7.1 a j w, zup_ne (by omega), s5 _ _ (by omega)]
        exact r8.1 a j w
      · rw [y7.2 a j w1 w2 (by omega), zup_ne (by omega), s5 _ _ (by omega)]
        exact r8.2 a j w1 w2 (by omega)
      · by_cases z : kk + 1 < lim
        · exact y8 w1 z
        · have zl : lim = kk + 1 := by omega
          obtain ⟨q1, q2⟩ := r9 v1
          obtain ⟨eh, eg⟩ := y11 zl.symm
          have hc : ∀ j, j ≠ 6 → h2 130 j = h1 130 j := fun j w => by
            rw [eh, zup_ne (by omega)]
            exact s4 _ _ (by omega)
          have gc : ∀ a j, a ≠ 13 → a ≠ 35 → g2 a j = g1 a j := fun a j w1 w2 => by
            rw [eg, zup_ne (by omega)]
            exact s5 _ _ w1
          rw [show lim - 1 = kk by omega]
          unfold rcR
          rw [hc 8 (by omega), hc 9 (by omega), hc 10 (by omega), hc 11 (by omega), hc 12 (by omega), gc 22 kk (by omega) (by omega), gc 21 kk (by omega) (by omega), gc 23 kk (by omega) (by omega), gc 24 kk (by omega) (by omega), gc 25 kk (by omega) (by omega)]
          exact ⟨q1, q2⟩
      · obtain ⟨z1, z2⟩ := y9 w L hL
        rw [C1 L hL, R1 L hL, z1, z2, show n + 1 - (lim - kk) = n - (lim - (kk + 1)) by omega, show m + 1 - (lim - kk) = m - (lim - (kk + 1)) by omega]
        exact ⟨rfl, rfl⟩
      · obtain ⟨z1, z2⟩ := y10 w L hL
        rw [C1 L hL, R1 L hL, z1, z2]
        exact ⟨rfl, rfl⟩
end
section
/-! a day begins, on both sides, the boats wherever they were -/
def hv0 (s : Nat) (t : Nat → Int) (g : yH) : Prop := sH s t g ∧ g 35 24 = t 0 ∧ g 35 25 = t 1 ∧ g 35 26 = t 2 ∧ g 35 27 = t 3 ∧ g 35 28 = t 6 ∧ ∀ i : Nat, (i : Int) < t 6 → g 11 i = t (32 + 3 * i)
theorem hv.z {s : Nat} {t p : Nat → Int} {g : yH} (H : hv s t (bU t p) g) (h6 : t 6 ≤ 6) : hv0 s t g := by
  obtain ⟨k1, k2, k3, k4, k5, k6, k7, k8⟩ := H
  have n : ∀ j, j < 31 → bU t p j = t j := fun j hj => bU_n (by omega)
  rw [n 0 (by omega)] at k3
  rw [n 1 (by omega)] at k4
  rw [n 2 (by omega)] at k5
  rw [n 3 (by omega)] at k6
  rw [n 6 (by omega)] at k7 k8
  refine ⟨k1, k3, k4, k5, k6, k7, fun i hi => ?_⟩
  have q := (k8 i hi).2
  rw [bU_n (by omega)] at q
  exact q
theorem begR_g {n s : Nat} {t : Nat → Int} {g : yH} (hn : 20 ≤ n) (hW : tW0 t) (H : hv0 s t g) (h29 : g 35 29 = t 5) : ∃ g2, f_X12_begin n [35] g = some (0, g2) ∧ bgR s t g g2 := by
  have w5 : 0 ≤ t 5 ∧ t 5 ≤ 4 := hW.2.2.2.2.2.1
  obtain ⟨k1, k3, k4, k5, k6, k7, k8⟩ := id H
  rw [e_X12_begin, h29, xg_pos (by omega)]
  have frA : ∀ a j, ¬ (a = 35 ∧ (j = 34 ∨ j = 35)) → (zup (zup g 35 34 0) 35 35 (t 5)) a j = g a j := fun a j w => by
    rw [zup_ne (by omega), zup_ne (by omega)]
  have a34 : (zup (zup g 35 34 0) 35 35 (t 5)) 35 34 = 0 := by rw [zup_ne (by omega), zup_at]
  have a35 : (zup (zup g 35 34 0) 35 35 (t 5)) 35 35 = t 5 := zup_at _ _ _ _
  have HA : sH s t (zup (zup g 35 34 0) 35 35 (t 5)) := k1.fr (fun a j w => frA a j (fun c => by
    rcases w with w | ⟨-, w | w⟩
    · omega
    · omega
    · have : ∀ j ∈ rQs, ¬ (j = 34 ∨ j = 35) := by decide
      exact this j w c.2))
  generalize zup (zup g 35 34 0) 35 35 (t 5) = gA at frA a34 a35 HA
  obtain ⟨g1, n1, b1, b2, b3, b4⟩ := beg_15 w5 6 0 n gA rfl (by omega) HA a35 (fun i hi => absurd hi (by omega))
  have n35 : ¬ bgK 35 := by unfold bgK; omega
  have n5 : ¬ bgK 5 := by unfold bgK; omega
  have n11 : ¬ bgK 11 := by unfold bgK; omega
  have HB : sH s t g1 := HA.fr (fun a j w => b3 a j (by
    rcases w with w | w
    · rw [w]; exact n5
    · rw [w.1]; exact n35))
  obtain ⟨g2, c1, c2, c3, c4⟩ := beg_140 hW 7 0 n1 g1 rfl hW.wd.2.2.2.2.1 (by omega) HB (by rw [b3 _ _ n35, frA _ _ (by omega)]; exact k7) (fun i hi => absurd hi (by omega))
  have frAll : ∀ a j, ¬ (bgK a ∨ a = 10 ∨ a = 17 ∨ a = 18) → ¬ (a = 35 ∧ (j = 34 ∨ j = 35 ∨ j = 49)) → g2 a j = g a j := fun a j w1 w2 => by
    rw [c2 a j (fun q => w1 (Or.inr q)) (fun q => w2 ⟨q.1, by omega⟩), b3 a j (fun q => w1 (Or.inl q)), frA a j (fun q => w2 ⟨q.1, by omega⟩)]
  have m35 : ∀ j, j ≠ 34 → j ≠ 35 → j ≠ 49 → g2 35 j = g 35 j := fun j j1 j2 j3 => frAll 35 j (fun q => by
    rcases q with q | q
    · exact n35 q
    · omega) (by omega)
  have HC : sH s t g2 := HB.fr (fun a j w => c2 a j (by omega) (fun q => by
    rcases w with w | ⟨-, w | w⟩
    · omega
    · omega
    · have : ∀ j ∈ rQs, j ≠ 49 := by decide
      exact this j w q.2))
  refine ⟨g2, ?_, ⟨HC, rfl, by rw [m35 _ (by omega) (by omega) (by omega)]; exact k3, by rw [m35 _ (by omega) (by omega) (by omega)]; exact k4, by rw [m35 _ (by omega) (by omega) (by omega)]; exact k5, by rw [m35 _ (by omega) (by omega) (by omega)]; exact k6, by rw [m35 _ (by omega) (by omega) (by omega)]; exact k7, fun i hi => ⟨(c4 i hi).1, ?_⟩⟩, ?_, ?_, c3, fun i hi => ?_, fun i hi => (c4 i hi).2, frAll⟩
  · refine (show _ = xl_X12_begin n 15 [35, ((0 : Nat) : Int)] gA from rfl).trans (b2.trans c1)
  · rw [frAll 11 i (fun q => by
      rcases q with q | q
      · exact n11 q
      · omega) (by omega)]
    exact k8 i hi
  · rw [c2 _ _ (by omega) (by omega), b3 _ _ n35]; exact a34
  · rw [c2 _ _ (by omega) (by omega), b3 _ _ n35]; exact a35
  · obtain ⟨x1, x2, x3, x4, x5, x6⟩ := b4 i hi
    exact ⟨by rw [c2 _ _ (by omega) (by omega)]; exact x1, by rw [c2 _ _ (by omega) (by omega)]; exact x2, by rw [c2 _ _ (by omega) (by omega)]; exact x3, by rw [c2 _ _ (by omega) (by omega)]; exact x4, by rw [c2 _ _ (by omega) (by omega)]; exact x5, by rw [c2 _ _ (by omega) (by omega)]; exact x6⟩
/-- the boats' cells as told -/
def pT (t : Nat → Int) : Nat → Int := fun i => t (31 + 3 * i)
theorem bU_T {t : Nat → Int} : bU t (pT t) = t := by
  funext j
  unfold bU pT
  by_cases w : 31 ≤ j ∧ j < 49 ∧ (j - 31) % 3 = 0
  · rw [if_pos w, show 31 + 3 * ((j - 31) / 3) = j by omega]
  · rw [if_neg w]
theorem bgK_n {a : Nat} (h : ¬ (13 ≤ a ∧ a ≤ 16) ∧ a ≠ 19 ∧ a ≠ 20) : ¬ bgK a := by
  unfold bgK
  omega
/-- what must be known before a day begins: of the class, of the reference -/
def bCc (b e : Nat) (t d : Nat → Int) (h : yH) : Prop := (b ≤ 30 ∧ e ≤ 50) ∧ cPr h ∧ cS b t h ∧ cSp b h ∧ cD e d h ∧ h e 1 = (e : Int) + 1 ∧ h e 2 = (e : Int) + 2
def bCr (s dd : Nat) (t d : Nat → Int) (K sd : Int) (g : yH) : Prop := hv0 s t g ∧ g 35 29 = t 5 ∧ (dd < 2 ∧ g 35 33 = (dd : Int)) ∧ (∀ j, j < 121 → g 6 (121 * dd + j) = d j) ∧ (0 ≤ K ∧ K ≤ 10) ∧ (g 35 50 = K ∨ (g 35 50 = -1 ∧ K = 0)) ∧ (1 ≤ K → sd = g 35 51)
theorem begin2 {n m b e s dd : Nat} {t d : Nat → Int} {K sd : Int} {h g : yH} (hn : 20 ≤ n) (hm : 20 ≤ m) (hT : dT t d) (C : bCc b e t d h) (R : bCr s dd t d K sd g) :
    ∃ h2 g2, f_X5_begin n [130, (b : Int), (e : Int), sd, K] h = some (0, h2) ∧ f_X12_begin m [35] g = some (0, g2) ∧ dR b e s dd t d K (t 5).toNat 0 0 (pT t) h2 g2 ∧ g2 35 34 = ((0 : Nat) : Int) ∧ g2 35 50 = g 35 50 ∧ frC h h2 ∧ frK 0 g g2 := by
  obtain ⟨⟨hb, he⟩, c1, c2, c3, c4, c5, c6⟩ := C
  obtain ⟨r1, r2, ⟨r3, r4⟩, r5, r6, r7, r8⟩ := R
  obtain ⟨h2, f1, x1, x2, x3, ⟨x4, x5, x6, x7⟩, ⟨x8, x9, x10, x11⟩, x12, x13⟩ := rbegin_e (seed := sd) (gl := K) (e := e) hn (by omega) (by omega) hT.1 c1 c2 c3
  obtain ⟨g2, f2, y1, y2, y3, y4, y5, y6, y7⟩ := begR_g hm hT.1 r1 r2
  have w5 := hT.1.sl
  have w6 := hT.1.wd.2.2.2.2
  have fh : ∀ a j, a < 130 ∨ 141 ≤ a ∨ (a = 130 ∧ (j = 2 ∨ j = 3 ∨ j = 4 ∨ j = 5 ∨ j = 15)) ∨ (a = 131 ∧ j ≤ 5) → h2 a j = h a j := fun a j w => x13 a j (by omega) (by omega) (by omega)
  have fg : ∀ a j, ¬ (a = 10 ∨ (13 ≤ a ∧ a ≤ 20)) → ¬ (a = 35 ∧ (j = 34 ∨ j = 35 ∨ j = 49)) → g2 a j = g a j := fun a j w1 w2 => y7 a j (fun q => by
    rcases q with q | q
    · exact bgK_n (by omega) q
    · omega) w2
  refine ⟨h2, g2, f1, f2, ⟨⟨⟨hb, he⟩, x1, x2, x3, c2.fr (fun a j w1 w2 => fh a j (by omega)), c3.fr (fun j _ => fh b j (by omega)), c4.fr (fun a j w1 w2 => fh a j (by omega)), by rw [fh _ _ (by omega)]; exact c5, by rw [fh _ _ (by omega)]; exact c6⟩, ⟨?_, ⟨r3, by rw [fg _ _ (by omega) (by omega)]; exact r4⟩, by rw [fg _ _ (by omega) (by omega)]; exact r2, fun j hj => by rw [fg _ _ (by omega) (by omega)]; exact r5 j hj⟩, ?_, ⟨by omega, x8, by rw [y3]; omega, x9, fun i hi => ?_⟩, fun i hi => (hT.1.bt hi).1, fun i hi => ?_⟩, y2, fg _ _ (by omega) (by omega), fun a j w => fh a j (by omega), fun a j w => fg a j (by omega) (by omega), fun a j w1 w2 w3 => by omega⟩
  · rw [bU_T]; exact y1
  · unfold dN
    rw [x4, x5, x6, x7, y2, y4, fg 35 50 (by omega) (by omega), fg 35 51 (by omega) (by omega)]
    exact ⟨rfl, ⟨by decide, by decide⟩, rfl, ⟨by decide, by decide⟩, rfl, r6, r7, r8⟩
  · obtain ⟨v1, v2, v3, v4, v5, v6⟩ := y5 i hi
    by_cases w : i < (t 5).toNat
    · have wi : (i : Int) < t 5 := by omega
      obtain ⟨s1, s2, s3⟩ := hT.1.sh (k := i) (by omega)
      have wh := hT.2.1.1 i (by omega) wi
      have e13 : v13 t i = t (19 + 3 * i) := if_pos wi
      have e14 : v14 t i = t (20 + 3 * i) := if_pos wi
      have e15 : v15 t i = t (21 + 3 * i) := if_pos wi
      rw [e13] at v1
      rw [e14] at v2
      rw [e15] at v3
      obtain ⟨u1, u2, u3, u4, u5, u6⟩ := x11 i w
      have f1 := s2.2.2 wi
      refine ⟨?_, fun _ => ?_, fun w2 => by omega⟩
      · rw [x10 i hi, v2]
        exact ⟨fun _ => ⟨w, by omega⟩, fun _ => w⟩
      · unfold sI
        rw [v1, v2, v3, v4, v5, v6, u1, u2, u3, u4, u5, u6]
        exact ⟨⟨⟨s1.1, wh⟩, ⟨by omega, by omega⟩, s3, ⟨by decide, by decide⟩, ⟨by decide, by decide⟩, by decide, by omega⟩, fun _ => ⟨rfl, rfl, rfl, rfl, rfl, rfl⟩⟩
    · refine ⟨?_, fun w2 => absurd w2 w, fun _ => ⟨v4, v5, v6⟩⟩
      rw [x10 i hi]
      exact ⟨fun w2 => absurd w2 w, fun w2 => absurd w2.1 w⟩
  · obtain ⟨b1, b2, b3⟩ := x12 i (by omega) hi
    obtain ⟨q1, q2⟩ := y6 i hi
    rw [b1, b2, b3, q1, q2]
    exact ⟨⟨rfl, hT.2.1.2 i (by omega) hi⟩, ⟨rfl, by decide, by decide⟩, rfl, by decide, by decide⟩
/-! a day up to a limit and to its end -/
theorem smR.go {b e s dd : Nat} {t d : Nat → Int} {K : Int} {q c : Nat} {x1 : Int} {n m kk lim : Nat} {h g h2 g2 : yH} {k2 : Nat} (H : smR b e s dd t d K q c x1 n m kk lim h g k2 h2 g2) (hn : lim - kk < n) (hm : lim - kk < m) : xl_X5_go n 14 [130, x1, (lim : Int), 1] h = some (0, h2) ∧ xl_X12_play m 4 [35, (lim : Int)] g = some ((k2 : Int), g2) := by
  obtain ⟨⟨y1, y2⟩, ⟨S2, p2, y3⟩, ⟨y4, y5⟩, y6, y7, y8, y9, y10, y11⟩ := H
  by_cases w : k2 = lim
  · obtain ⟨z1, z2⟩ := y9 w (lim : Int) (Int.le_refl _)
    have h6 : h2 130 6 = (lim : Int) := by rw [y3.2.2.1.1, y4, w]
    obtain ⟨n', en⟩ : ∃ n', n - (lim - kk) = n' + 1 := ⟨n - (lim - kk) - 1, by omega⟩
    obtain ⟨m', em⟩ : ∃ m', m - (lim - kk) = m' + 1 := ⟨m - (lim - kk) - 1, by omega⟩
    rw [z1, z2, en, em, e_X5_go_14, if_neg (by decide), h6, if_neg (by omega), e_X12_play_4, y4, if_neg (by omega)]
    exact ⟨rfl, rfl⟩
  · exact y10 (by omega) _ (Int.le_refl _)
/-- the end of a day against a state of it -/
theorem core2 {n m b e s dd S Z D : Nat} {t d : Nat → Int} {x1 : Int} {p : Nat → Int} {h g : yH} (hT : dT t d) (hn : 200 ≤ n) (hm : 200 ≤ m) (H : dR b e s dd t d 0 S 0 0 p h g) (h34 : g 35 34 = ((0 : Nat) : Int)) (hD : (D : Int) = d 0) (hZ : Z ≤ D) :
    ∃ k2 hE gE kZ hZ gZ, smR b e s dd t d 0 0 0 x1 n m 0 D h g k2 hE gE ∧ smR b e s dd t d 0 0 0 x1 n m 0 Z h g kZ hZ gZ ∧ (kZ = Z ↔ Z ≤ k2) ∧ (kZ = Z → ∀ a j, 21 ≤ a → a ≤ 25 → j < Z → gE a j = gZ a j) := by
  have d30 := hT.2.2.1
  obtain ⟨k2, hE, gE, r⟩ := sim2 (x1 := x1) hT D 0 D n m S 0 0 p h g (by omega) (by omega) (by omega) (by omega) (by omega) (by omega) H h34
  obtain ⟨kZ, hZ', gZ, z⟩ := sim2 (x1 := x1) hT Z 0 Z n m S 0 0 p h g (by omega) (by omega) (by omega) (by omega) (by omega) (by omega) H h34
  have rg := r.go (by omega) (by omega)
  obtain ⟨⟨y1, y2⟩, ⟨S2, p2, y3⟩, ⟨y4, y5⟩, y6, y7, y8, y9, y10, y11⟩ := id z
  by_cases w : kZ = Z
  · obtain ⟨-, z2⟩ := y9 w (D : Int) (by omega)
    obtain ⟨k3, hF, gF, f⟩ := sim2 (x1 := x1) hT (D - Z) Z D (n - (Z - 0)) (m - (Z - 0)) S2 _ _ p2 hZ' gZ (by omega) (by omega) (by omega) (by omega) (by omega) (by omega) y3 (by rw [y4, w])
    have fg := f.go (by omega) (by omega)
    obtain ⟨⟨u1, u2⟩, -, -, -, ⟨-, u7⟩, -⟩ := f
    have ee := (rg.2.symm.trans z2).trans fg.2
    have e1 : (k2 : Int) = (k3 : Int) := congrArg Prod.fst (Option.some.inj ee)
    have e2 : gE = gF := congrArg Prod.snd (Option.some.inj ee)
    refine ⟨k2, hE, gE, kZ, hZ', gZ, r, z, ⟨fun _ => by omega, fun _ => w⟩, fun _ a j w1 w2 w3 => ?_⟩
    rw [e2]
    exact u7 a j w1 w2 w3
  · obtain ⟨-, z2⟩ := y10 (by omega) (D : Int) (by omega)
    have ee := rg.2.symm.trans z2
    have e1 : (k2 : Int) = (kZ : Int) := congrArg Prod.fst (Option.some.inj ee)
    exact ⟨k2, hE, gE, kZ, hZ', gZ, r, z, ⟨fun q => absurd q w, fun q => by omega⟩, fun q => absurd q w⟩
end
section
/-! sea and day as told, on both sides -/
theorem dayIn {h g : yH} {s dd : Nat} (R : RR True h g) (hW : WH g) (hp : cPr h) (hs : s < 2) (hsm : (s : Int) < g 4 0) (hd : dd < 2) (hdm : (dd : Int) < g 4 1) : ∃ t d : Nat → Int, dT t d ∧ bCc (20 + 10 * s) (40 + 10 * dd) t d h ∧ (∀ j, j < 50 → g 5 (50 * s + j) = t j) ∧ ∀ j, j < 121 → g 6 (121 * dd + j) = d j := by
  obtain ⟨t, a1, a2, a3, a4⟩ := R.sea hs hsm
  obtain ⟨d, b1, b2, b3⟩ := R.2.2.1.2.2.2.2.2.2.1 dd hd
  have hP := R.1
  have w0 := (hW 0 (by decide)).1 s hs hsm
  have w1 : wh0 t := w0.c (fun j hj => by
    show t j = g 5 (100 * 0 + 50 * s + j)
    rw [← a3 j hj, show 100 * 0 + 50 * s + j = 50 * s + j by omega])
  rw [show 0 + 40 + 10 * dd = 40 + 10 * dd by omega] at b1
  refine ⟨t, d, ⟨a4, w1, b3 hdm⟩, ⟨⟨by omega, by omega⟩, hp, a1, a2, b1, ?_, ?_⟩, a3, fun j hj => by rw [← b2 j hj, show 242 * 0 + 121 * dd + j = 121 * dd + j by omega]⟩
  · rcases (show dd = 0 ∨ dd = 1 by omega) with rfl | rfl
    · exact hP.p (a := 40) (j := 1) (v := 41) (by decide)
    · exact hP.p (a := 50) (j := 1) (v := 51) (by decide)
  · rcases (show dd = 0 ∨ dd = 1 by omega) with rfl | rfl
    · exact hP.p (a := 40) (j := 2) (v := 42) (by decide)
    · exact hP.p (a := 50) (j := 2) (v := 52) (by decide)
/-- the reference's cells that a day leaves as they are -/
def frZ (g g2 : yH) : Prop := ∀ a j, a ≤ 9 ∨ a = 12 ∨ (26 ≤ a ∧ a ≤ 34) → g2 a j = g a j
theorem frZ.t {g g1 g2 : yH} (a : frZ g g1) (b : frZ g1 g2) : frZ g g2 := fun i j w => (b i j w).trans (a i j w)
theorem frK.z {k : Nat} {g g2 : yH} (h : frK k g g2) : frZ g g2 := fun a j w => h.1 a j (by omega)
theorem frZ.k7 {g g2 : yH} (h : frZ g g2) : k7 g g2 := fun a j w1 w2 => h a j (by omega)
theorem RR.z {F : Prop} {h h2 g g2 : yH} (R : RR F h g) (hL : lnI h) (hm : h 4 1 ≤ 600) (f : frC h h2) (z : frZ g g2) (hq : rQ g2) : RR F h2 g2 := by
  have R1 := R.gf hL hm hq.P (fun a j w => z a j (by omega))
  exact R1.hf hL hm (fun a j w => f a j (by omega))
/-- a sea and a day in the reference's hand -/
theorem lay2 {m s dd : Nat} {t d : Nat → Int} {g : yH} (hm : 7 ≤ m) (hq : rQ g) (h4 : ∀ j, j < 12 → 0 ≤ g 4 j ∧ g 4 j ≤ 2) (hs : (s : Int) < g 4 0) (hd : dd < 2) (hdm : (dd : Int) < g 4 1) (ht : ∀ j, j < 50 → g 5 (50 * s + j) = t j) (hD : ∀ j, j < 121 → g 6 (121 * dd + j) = d j) (hT : dT t d) :
    ∃ gB, bCr s dd t d 0 0 gB ∧ frZ g gB ∧ ∀ r : yO, xb (f_X12_play m [35, d 0] gB) (fun _ h4 => some (1, h4)) = r → f_X12_layDay m [35, (s : Int), (dd : Int)] g = r := by
  have q1 : rQ (zup g 35 33 (dd : Int)) := hq.up (Or.inr (by decide))
  have n4 : ∀ j, (zup g 35 33 (dd : Int)) 4 j = g 4 j := fun j => zup_ne (by omega)
  obtain ⟨v, g2, e1, rv, H⟩ := hand_e (n := m) (s := s) (t := t) hm q1 (fun j hj => by rw [n4]; exact h4 j hj) (by rw [n4]; exact hs) (fun j hj => by rw [zup_ne (by omega)]; exact ht j hj) hT.1
  obtain ⟨H1, ⟨H2, H3, H4, H5, H6, H7⟩, H8, H9⟩ := H
  have fr : ∀ a j, ¬ (a = 35 ∧ (j = 33 ∨ (23 ≤ j ∧ j ≤ 29) ∨ j = 50)) → a ≠ 10 → a ≠ 11 → (zup g2 35 50 (-1)) a j = g a j := fun a j w1 w2 w3 => by
    rw [zup_ne (by omega), H9 a j (by omega) w2 w3, zup_ne (by omega)]
  have k35 : ∀ j, j ≠ 50 → (zup g2 35 50 (-1)) 35 j = g2 35 j := fun j w => zup_ne (by omega)
  have k33 : (zup g2 35 50 (-1)) 35 33 = (dd : Int) := by
    rw [k35 _ (by omega), H9 _ _ (by omega) (by omega) (by omega), zup_at]
  have k6 : ∀ j, j < 121 → (zup g2 35 50 (-1)) 6 (121 * dd + j) = d j := fun j hj => by
    rw [fr _ _ (by omega) (by omega) (by omega)]
    exact hD j hj
  have sH1 : sH s t (zup g2 35 50 (-1)) := H1.nf (fun a j w => zup_ne (by unfold nqj at w; omega))
  refine ⟨zup g2 35 50 (-1), ⟨⟨sH1, by rw [k35 _ (by omega)]; exact H2, by rw [k35 _ (by omega)]; exact H3, by rw [k35 _ (by omega)]; exact H4, by rw [k35 _ (by omega)]; exact H5, by rw [k35 _ (by omega)]; exact H7, fun i hi => by rw [zup_ne (by omega)]; exact (H8 i hi).2⟩, by rw [k35 _ (by omega)]; exact H6, ⟨hd, k33⟩, k6, ⟨by decide, by decide⟩, Or.inr ⟨zup_at _ _ _ _, rfl⟩, fun w => by omega⟩, fun a j w => fr a j (by omega) (by omega) (by omega), fun r er => ?_⟩
  rw [e_X12_layDay, hasDay_e hq.P h4, xb_some, if_pos (show 0 ≤ (dd : Int) ∧ (dd : Int) < g 4 1 by omega), if_neg (by decide), e1, xb_some, rv, if_neg (by decide), e_X12_deeds, xg_pos (sH1.2.2.2.p (j := 7) (k := 6) (by decide)), k33, xg_pos (by omega), xg_pos (by omega), show (121 * (dd : Int)).toNat = 121 * dd + 0 by omega, k6 0 (by decide), xb_some]
  exact er
/-- no such sea, or no such day -/
theorem layN {m : Nat} {x y : Int} {g : yH} (hq : rQ g) (h4 : ∀ j, j < 12 → 0 ≤ g 4 j ∧ g 4 j ≤ 2) (hn : ¬ ((0 ≤ x ∧ x < g 4 0) ∧ 0 ≤ y ∧ y < g 4 1)) : f_X12_layDay m [35, x, y] g = some (0, zup g 35 33 y) := by
  rw [e_X12_layDay, hasDay_e hq.P h4, xb_some]
  by_cases c : 0 ≤ y ∧ y < g 4 1
  · have n4 : ∀ j, (zup g 35 33 y) 4 j = g 4 j := fun j => zup_ne (by omega)
    rw [if_pos c, if_neg (by decide), hand_n (hq.up (Or.inr (by decide))) (fun j hj => by rw [n4]; exact h4 j hj) (by rw [n4]; exact fun w => hn ⟨w, c⟩), xb_some, if_pos rfl]
  · rw [if_neg c, if_pos rfl]
/-- what the class asks first -/
theorem findBoth {n : Nat} {x y : Int} {h : yH} (hP : cP h) (h0 : h 6 0 ≤ 2) (h1 : h 6 1 ≤ 2) : f_X9_findSea n [3, x] h = some (if 0 ≤ x ∧ x < h 6 0 then 20 + 10 * x else -1, h) ∧ f_X9_findDay n [3, y] h = some (if 0 ≤ y ∧ y < h 6 1 then 40 + 10 * y else -1, h) := ⟨findSea_e hP h0, findDay_e hP h1⟩
/-- at the end of a day: what both hold -/
def stE (h g h2 g2 : yH) : Prop := ∃ (b e s dd : Nat) (t d : Nat → Int) (S q c k2 : Nat) (p : Nat → Int), dT t d ∧ dR b e s dd t d 0 S q c p h2 g2 ∧ q ≤ 180 ∧ c ≤ 121770 ∧ g2 35 34 = (k2 : Int) ∧ frC h h2 ∧ frZ g g2
theorem toStop2 {m n : Nat} {x y : Int} {h g : yH} (hn : 300 ≤ n) (hm : 300 ≤ m) (R : RR True h g) (hW : WH g) (hp : cPr h) (h13 : h 1 3 = 130) (hq : rQ g) (h4 : ∀ j, j < 12 → 0 ≤ g 4 j ∧ g 4 j ≤ 2) :
    ∃ v h2 g2, f_X11_runToStop n [1, x, y] h = some (v, h2) ∧ f_X12_layDay m [35, x, y] g = some (v, g2) ∧ ((v = 0 ∧ h2 = h ∧ g2 = zup g 35 33 y) ∨ (v = 1 ∧ stE h g h2 g2)) := by
  have hP := R.1
  have n0 := R.n6 (j := 0) (by decide)
  have n1 := R.n6 (j := 1) (by decide)
  have b0 := h4 0 (by decide)
  have b1 := h4 1 (by decide)
  have p3 : h 1 0 = 3 := hP.p (by decide)
  obtain ⟨F1, F2⟩ := findBoth (n := n) (x := x) (y := y) hP (by omega) (by omega)
  by_cases c : (0 ≤ x ∧ x < g 4 0) ∧ 0 ≤ y ∧ y < g 4 1
  · obtain ⟨s, rfl⟩ : ∃ s : Nat, x = (s : Int) := ⟨x.toNat, by omega⟩
    obtain ⟨dd, rfl⟩ : ∃ dd : Nat, y = (dd : Int) := ⟨y.toNat, by omega⟩
    obtain ⟨t, d, hT, C, ht, hD⟩ := dayIn (s := s) (dd := dd) R hW hp (by omega) c.1.2 (by omega) c.2.2
    obtain ⟨gB, B1, B2, B3⟩ := lay2 (m := m) (s := s) (dd := dd) (t := t) (d := d) (by omega) hq h4 c.1.2 (by omega) c.2.2 ht hD hT
    obtain ⟨h0, g0, f1, f2, D0, z34, z50, fc, fk⟩ := begin2 (n := n) (m := m) (by omega) (by omega) hT C B1
    have d30 := hT.2.2.1
    obtain ⟨k2, hE, gE, sm⟩ := sim2 (x1 := 30) hT (d 0).toNat 0 (d 0).toNat n m _ 0 0 _ h0 g0 (by omega) (by omega) (by omega) (by omega) (by omega) (by omega) D0 z34
    have go := sm.go (by omega) (by omega)
    rw [show (((d 0).toNat : Nat) : Int) = d 0 by omega] at go
    obtain ⟨⟨y1, y2⟩, ⟨S2, p2, y3⟩, ⟨y4, y5⟩, y6, y7, -⟩ := sm
    have k0 : h0 130 1 = ((40 + 10 * dd : Nat) : Int) := D0.1.2.2.2.1
    have kd : h0 (40 + 10 * dd) 0 = d 0 := D0.1.2.2.2.2.2.2.1.1
    refine ⟨1, hE, gE, ?_, B3 _ ?_, Or.inr ⟨rfl, 20 + 10 * s, 40 + 10 * dd, s, dd, t, d, S2, _, _, k2, p2, hT, y3, by omega, by omega, y4, fc.t y6, B2.t (fk.z.t y7.z)⟩⟩
    · rw [e_X11_runToStop, xg_pos p3, F1, xb_some, xg_pos p3, F2, xb_some, if_pos (show 0 ≤ (s : Int) ∧ (s : Int) < h 6 0 by omega), if_pos (show 0 ≤ (dd : Int) ∧ (dd : Int) < h 6 1 by omega), if_neg (by omega), if_neg (by omega), xg_pos h13, xg_pos (by omega), xg_pos (by omega), show 20 + 10 * (s : Int) = ((20 + 10 * s : Nat) : Int) by omega, show 40 + 10 * (dd : Int) = ((40 + 10 * dd : Nat) : Int) by omega, f1, xb_some, xg_pos (by rw [fc _ _ (by omega)]; exact h13), e_X5_go, k0, xg_pos (by omega), Int.toNat_natCast, kd, show min 30 (d 0) = d 0 by omega, go.1, xb_some]
    · rw [e_X12_play, f2, xb_some, go.2, xb_some]
  · refine ⟨0, h, zup g 35 33 y, ?_, layN hq h4 c, Or.inl ⟨rfl, rfl, rfl⟩⟩
    rw [e_X11_runToStop, xg_pos p3, F1, xb_some, xg_pos p3, F2, xb_some]
    by_cases c1 : 0 ≤ x ∧ x < h 6 0
    · rw [if_pos c1, if_neg (by omega), if_neg (show ¬ (0 ≤ y ∧ y < h 6 1) by omega), if_pos (by decide)]
    · rw [if_neg c1, if_pos (by decide)]
/-- what is kept of the class behind a day -/
theorem stE.keep {h g h2 g2 : yH} (E : stE h g h2 g2) (R : RR True h g) (hL : lnI h) (hm : h 4 1 ≤ 600) : RR True h2 g2 ∧ cPr h2 ∧ frC h h2 ∧ k7 g g2 := by
  obtain ⟨b, e, s, dd, t, d, S, q, c, k2, p, hT, D, -, -, -, fc, fz⟩ := E
  exact ⟨R.z hL hm fc fz D.2.1.1.1.2.2.2, D.1.2.1, fc, fz.k7⟩
/-- what every question of a day leaves -/
def dyK (h g h2 g2 : yH) : Prop := RR True h2 g2 ∧ cPr h2 ∧ frC h h2 ∧ k7 g g2
theorem dyK.c0 {h g : yH} (R : RR True h g) (hL : lnI h) (hm : h 4 1 ≤ 600) (hp : cPr h) : dyK h g h (zup g 35 0 0) := ⟨R.c0 hL hm, hp, frC.r, k7.c0⟩
theorem dyK.n {h g : yH} {y : Int} (R : RR True h g) (hL : lnI h) (hm : h 4 1 ≤ 600) (hq : rQ g) (hp : cPr h) : dyK h g h (zup (zup g 35 0 0) 35 33 y) := ⟨R.gf hL hm ((hq.up (Or.inr (by decide))).up (Or.inr (by decide)) : rQ (zup (zup g 35 0 0) 35 33 y)).P (fun a j w => by rw [zup_ne (by omega), zup_ne (by omega)]), hp, frC.r, fun a j w1 w2 => by rw [zup_ne (by omega), zup_ne (by omega)]⟩
theorem stE.k {h g h2 g2 : yH} (E : stE h (zup g 35 0 0) h2 g2) (R : RR True h g) (hL : lnI h) (hm : h 4 1 ≤ 600) : dyK h g h2 g2 := by
  obtain ⟨a1, a2, a3, a4⟩ := E.keep (R.c0 hL hm) hL hm
  exact ⟨a1, a2, a3, fun a j w1 w2 => (a4 a j w1 w2).trans (zup_ne (by omega))⟩
theorem WH.c0 {g : yH} (h : WH g) : WH (zup g 35 0 0) := h.fr (fun a j w => zup_ne (by omega))
theorem stopD {m n : Nat} {x y : Int} {h g : yH} (hn : 300 ≤ n) (hm : 300 ≤ m) (R : RR True h g) (hW : WH g) (hp : cPr h) (h13 : h 1 3 = 130) (hL : lnI h) (hl : h 4 1 ≤ 600) (hq : rQ g) (h4 : ∀ j, j < 12 → 0 ≤ g 4 j ∧ g 4 j ≤ 2) :
    ∃ v h2 g2, f_X11_runToStop n [1, x, y] h = some (v, h2) ∧ f_X12_layDay m [35, x, y] (zup g 35 0 0) = some (v, g2) ∧ h2 1 3 = 130 ∧ dyK h g h2 g2 ∧ (v = 0 ∨ (v = 1 ∧ stE h (zup g 35 0 0) h2 g2)) := by
  obtain ⟨v, h2, g2, e1, e2, e3⟩ := toStop2 (x := x) (y := y) hn hm (R.c0 hL hl) hW.c0 hp h13 (c0_q hq) (c0_4 h4)
  rcases e3 with ⟨rfl, rfl, rfl⟩ | ⟨rfl, e3⟩
  · exact ⟨0, _, _, e1, e2, h13, dyK.n R hL hl hq hp, Or.inl rfl⟩
  · have k := e3.k R hL hl
    exact ⟨1, _, _, e1, e2, by rw [k.2.2.1 _ _ (by omega)]; exact h13, k, Or.inr ⟨rfl, e3⟩⟩
/-! stop, twice -/
theorem RR_stop {m n : Nat} {x y : Int} {h g : yH} (hn : 300 ≤ n) (hm : 300 ≤ m) (R : RR True h g) (hW : WH g) (hp : cPr h) (h13 : h 1 3 = 130) (hL : lnI h) (hl : h 4 1 ≤ 600) (hq : rQ g) (h4 : ∀ j, j < 12 → 0 ≤ g 4 j ∧ g 4 j ≤ 2) : ∃ v h2 g2, f_X11_stop n [1, x, y] h = some (v, h2) ∧ f_X12_stop m [35, x, y] g = some (v, g2) ∧ dyK h g h2 g2 := by
  obtain ⟨v, h2, g2, e1, e2, e13, k, e3⟩ := stopD (x := x) (y := y) hn hm R hW hp h13 hL hl hq h4
  rcases e3 with rfl | ⟨rfl, e3⟩
  · refine ⟨-1, h2, g2, ?_, ?_, k⟩
    · rw [e_X11_stop, e1, xb_some, if_pos rfl]
    · rw [e_X12_stop, e2, xb_some, if_pos rfl]
  · obtain ⟨b, e, s, dd, t, d, S, q, c, k2, p, hT, D, -, -, z, -, -⟩ := e3
    refine ⟨g2 35 34, h2, g2, ?_, ?_, k⟩
    · rw [e_X11_stop, e1, xb_some, if_neg (by decide), xg_pos e13, D.2.2.1.1]
    · rw [e_X12_stop, e2, xb_some, if_neg (by decide)]
theorem RR_twice {m n : Nat} {x y : Int} {h g : yH} (hn : 300 ≤ n) (hm : 300 ≤ m) (R : RR True h g) (hW : WH g) (hp : cPr h) (h13 : h 1 3 = 130) (hL : lnI h) (hl : h 4 1 ≤ 600) (hq : rQ g) (h4 : ∀ j, j < 12 → 0 ≤ g 4 j ∧ g 4 j ≤ 2) : ∃ v h2 g2, f_X11_twice n [1, x, y] h = some (v, h2) ∧ f_X12_twice m [35, x, y] g = some (v, g2) ∧ dyK h g h2 g2 := by
  obtain ⟨v, h2, g2, e1, e2, e13, k, e3⟩ := stopD (x := x) (y := y) hn hm R hW hp h13 hL hl hq h4
  rcases e3 with rfl | ⟨rfl, e3⟩
  · refine ⟨-1, h2, g2, ?_, ?_, k⟩
    · rw [e_X11_twice, e1, xb_some, if_pos rfl]
    · rw [e_X12_twice, e2, xb_some, if_pos rfl]
  · obtain ⟨b, e, s, dd, t, d, S, q, c, k2, p, hT, D, -, -, z, -, -⟩ := e3
    refine ⟨g2 35 49, h2, g2, ?_, ?_, k⟩
    · rw [e_X11_twice, e1, xb_some, if_neg (by decide), xg_pos e13, D.2.2.1.2.2.1]
    · rw [e_X12_twice, e2, xb_some, if_neg (by decide)]
end
section
/-! a state of a day; a deed of a day -/
def stS (z : Int) (h g h2 g2 : yH) : Prop := ∃ (b e s dd : Nat) (t d : Nat → Int) (S q c : Nat) (p : Nat → Int), dT t d ∧ dR b e s dd t d 0 S q c p h2 g2 ∧ g2 35 34 = z ∧ frC h h2 ∧ frZ g g2
def st0 (h g h2 g2 : yH) : Prop := cPr h2 ∧ frC h h2 ∧ frZ g g2 ∧ rQ g2
theorem dR.bcr {b e s dd : Nat} {t d : Nat → Int} {S q c : Nat} {p : Nat → Int} {h g : yH} (H : dR b e s dd t d 0 S q c p h g) (hT : dT t d) : bCr s dd t d 0 0 g := ⟨H.2.1.1.z hT.1.wd.2.2.2.2.2, H.2.1.2.2.1, H.2.1.2.1, H.2.1.2.2.2, ⟨by decide, by decide⟩, H.2.2.1.2.2.2.2.2.2.1, fun w => by omega⟩
theorem toState2 {m n : Nat} {x y z : Int} {h g : yH} (hn : 300 ≤ n) (hm : 300 ≤ m) (R : RR True h g) (hW : WH g) (hp : cPr h) (h13 : h 1 3 = 130) (hq : rQ g) (h4 : ∀ j, j < 12 → 0 ≤ g 4 j ∧ g 4 j ≤ 2) :
    ∃ v h2 g2, f_X11_runToState n [1, x, y, z] h = some (v, h2) ∧ f_X12_layState m [35, x, y, z] g = some (v, g2) ∧ ((v = 0 ∧ st0 h g h2 g2) ∨ (v = 1 ∧ stS z h g h2 g2)) := by
  have hP := R.1
  have n0 := R.n6 (j := 0) (by decide)
  have n1 := R.n6 (j := 1) (by decide)
  have b0 := h4 0 (by decide)
  have b1 := h4 1 (by decide)
  have p3 : h 1 0 = 3 := hP.p (by decide)
  obtain ⟨F1, F2⟩ := findBoth (n := n) (x := x) (y := y) hP (by omega) (by omega)
  have C0 : ∀ r : yO, (if (if 0 ≤ x ∧ x < h 6 0 then 20 + 10 * x else -1) < 0 then (some (0, h)) else (if (if 0 ≤ y ∧ y < h 6 1 then 40 + 10 * y else -1) < 0 then (some (0, h)) else (if z < 0 then (some (0, h)) else (xg (0 ≤ (if 0 ≤ y ∧ y < h 6 1 then 40 + 10 * y else -1)) (if (h (if 0 ≤ y ∧ y < h 6 1 then 40 + 10 * y else -1).toNat 0) < z then (some (0, h)) else (xg (h 1 3 = 130) (xg (0 ≤ (if 0 ≤ x ∧ x < h 6 0 then 20 + 10 * x else -1)) (xg (0 ≤ (if 0 ≤ y ∧ y < h 6 1 then 40 + 10 * y else -1)) (xb (f_X5_begin n [130, (if 0 ≤ x ∧ x < h 6 0 then 20 + 10 * x else -1), (if 0 ≤ y ∧ y < h 6 1 then 40 + 10 * y else -1), 0, 0] h) (fun _ h3 => xg (h3 1 3 = 130) (xb (f_X5_go n [130, z] h3) (fun _ h4 => xg (h4 1 3 = 130) (if (h4 130 6) = z then (some (1, h4)) else (some (0, h4)))))))))))))) : yO) = r → f_X11_runToState n [1, x, y, z] h = r := by
    intro r er
    rw [e_X11_runToState, xg_pos p3, F1, xb_some, xg_pos p3, F2, xb_some]
    exact er
  have s0 : st0 h g h g := ⟨hp, frC.r, fun _ _ _ => rfl, hq⟩
  by_cases cz : z < 0
  · refine ⟨0, h, g, C0 _ ?_, ?_, Or.inl ⟨rfl, s0⟩⟩
    · by_cases c1 : (if 0 ≤ x ∧ x < h 6 0 then 20 + 10 * x else -1) < 0
      · rw [if_pos c1]
      · rw [if_neg c1]
        by_cases c2 : (if 0 ≤ y ∧ y < h 6 1 then 40 + 10 * y else -1) < 0
        · rw [if_pos c2]
        · rw [if_neg c2, if_pos cz]
    · rw [e_X12_layState, if_pos cz]
  by_cases c : (0 ≤ x ∧ x < g 4 0) ∧ 0 ≤ y ∧ y < g 4 1
  rotate_left
  · refine ⟨0, h, zup g 35 33 y, C0 _ ?_, ?_, Or.inl ⟨rfl, hp, frC.r, fun a j w => zup_ne (by omega), hq.up (Or.inr (by decide))⟩⟩
    · by_cases c1 : 0 ≤ x ∧ x < h 6 0
      · rw [if_pos c1, if_neg (show ¬ (20 + 10 * x < 0) by omega), if_neg (show ¬ (0 ≤ y ∧ y < h 6 1) by omega), if_pos (by decide)]
      · rw [if_neg c1, if_pos (by decide)]
    · rw [e_X12_layState, if_neg cz, layN hq h4 c, xb_some, if_pos rfl]
  obtain ⟨s, rfl⟩ : ∃ s : Nat, x = (s : Int) := ⟨x.toNat, by omega⟩
  obtain ⟨dd, rfl⟩ : ∃ dd : Nat, y = (dd : Int) := ⟨y.toNat, by omega⟩
  rw [if_pos (show 0 ≤ (s : Int) ∧ (s : Int) < h 6 0 by omega), if_pos (show 0 ≤ (dd : Int) ∧ (dd : Int) < h 6 1 by omega), if_neg (show ¬ (20 + 10 * (s : Int) < 0) by omega), if_neg (show ¬ (40 + 10 * (dd : Int) < 0) by omega), if_neg cz] at C0
  obtain ⟨t, d, hT, C, ht, hD⟩ := dayIn (s := s) (dd := dd) R hW hp (by omega) c.1.2 (by omega) c.2.2
  obtain ⟨gB, B1, B2, B3⟩ := lay2 (m := m) (s := s) (dd := dd) (t := t) (d := d) (by omega) hq h4 c.1.2 (by omega) c.2.2 ht hD hT
  obtain ⟨h0, g0, f1, f2, D0, z34, z50, fc, fk⟩ := begin2 (n := n) (m := m) (by omega) (by omega) hT C B1
  have d30 := hT.2.2.1
  have hd0 : h (40 + 10 * (dd : Int)).toNat 0 = d 0 := by
    rw [show (40 + 10 * (dd : Int)).toNat = 40 + 10 * dd by omega]
    exact C.2.2.2.2.1.1
  rw [xg_pos (show 0 ≤ 40 + 10 * (dd : Int) by omega), hd0, xg_pos h13, xg_pos (show 0 ≤ 20 + 10 * (s : Int) by omega), show 20 + 10 * (s : Int) = ((20 + 10 * s : Nat) : Int) by omega, show 40 + 10 * (dd : Int) = ((40 + 10 * dd : Nat) : Int) by omega, xg_pos (show 0 ≤ ((40 + 10 * dd : Nat) : Int) by omega), f1, xb_some] at C0
  have k0 : h0 130 1 = ((40 + 10 * dd : Nat) : Int) := D0.1.2.2.2.1
  have kd : h0 (40 + 10 * dd) 0 = d 0 := D0.1.2.2.2.2.2.2.1.1
  have h013 : h0 1 3 = 130 := by rw [fc _ _ (by omega)]; exact h13
  by_cases cd : d 0 < z
  · obtain ⟨k2, hE, gE, sm⟩ := sim2 (x1 := 30) hT (d 0).toNat 0 (d 0).toNat n m _ 0 0 _ h0 g0 (by omega) (by omega) (by omega) (by omega) (by omega) (by omega) D0 z34
    have go := sm.go (by omega) (by omega)
    rw [show (((d 0).toNat : Nat) : Int) = d 0 by omega] at go
    obtain ⟨⟨y1, y2⟩, ⟨S2, p2, y3⟩, ⟨y4, y5⟩, y6, y7, -⟩ := sm
    refine ⟨0, h, gE, C0 _ ?_, ?_, Or.inl ⟨rfl, hp, frC.r, B2.t (fk.z.t y7.z), y3.2.1.1.1.2.2.2⟩⟩
    · rw [if_pos cd]
    · rw [e_X12_layState, if_neg cz, B3 (some (1, gE)) (by rw [e_X12_play, f2, xb_some, go.2, xb_some]), xb_some, if_neg (by decide), y4, if_pos (by omega)]
  · obtain ⟨k2, hE, gE, kZ, hZ, gZ, sm, sz, i1, -⟩ := core2 (n := n) (m := m) (D := (d 0).toNat) (Z := z.toNat) (x1 := z) hT (by omega) (by omega) D0 z34 (by omega) (by omega)
    have go := sm.go (by omega) (by omega)
    have gz := sz.go (by omega) (by omega)
    rw [show (((d 0).toNat : Nat) : Int) = d 0 by omega] at go
    rw [show ((z.toNat : Nat) : Int) = z by omega] at gz
    obtain ⟨⟨y1, y2⟩, ⟨S2, p2, y3⟩, ⟨y4, y5⟩, y6, y7, -⟩ := sm
    obtain ⟨⟨u1, u2⟩, ⟨S3, p3', u3⟩, ⟨u4, u5⟩, u6, u7, -⟩ := sz
    have hz6 : hZ 130 6 = (kZ : Int) := u3.2.2.1.1.trans u4
    have eL : f_X12_layDay m [35, (s : Int), (dd : Int)] g = some (1, gE) := B3 _ (by rw [e_X12_play, f2, xb_some, go.2, xb_some])
    have eG : f_X5_go n [130, z] h0 = some (0, hZ) := by
      rw [e_X5_go, k0, xg_pos (by omega), Int.toNat_natCast, kd, show min z (d 0) = z by omega]
      exact gz.1
    have hZ13 : hZ 1 3 = 130 := by rw [u6 _ _ (by omega)]; exact h013
    rw [if_neg cd, xg_pos h013, eG, xb_some, xg_pos hZ13, hz6] at C0
    by_cases ck : kZ = z.toNat
    · obtain ⟨h0', g0', v1, v2, D1, v34, v50, vc, vk⟩ := begin2 (n := n) (m := m) (by omega) (by omega) hT C (y3.bcr hT)
      have eh : h0 = h0' := congrArg Prod.snd (Option.some.inj (f1.symm.trans v1))
      subst eh
      obtain ⟨kY, hY, gY, sy⟩ := sim2 (x1 := z) hT z.toNat 0 z.toNat n m _ 0 0 _ h0 g0' (by omega) (by omega) (by omega) (by omega) (by omega) (by omega) D1 v34
      have gy := sy.go (by omega) (by omega)
      rw [show ((z.toNat : Nat) : Int) = z by omega] at gy
      obtain ⟨⟨t1, t2⟩, ⟨S4, p4, t3⟩, ⟨t4, t5⟩, t6, t7, -⟩ := sy
      have eh : hZ = hY := congrArg Prod.snd (Option.some.inj (gz.1.symm.trans gy.1))
      subst eh
      have ky : (kY : Int) = (kZ : Int) := by rw [← t4, ← t3.2.2.1.1, hz6]
      refine ⟨1, hZ, gY, C0 _ ?_, ?_, Or.inr ⟨rfl, _, _, _, _, t, d, S4, _, _, p4, hT, t3, by rw [t4]; omega, fc.t u6, B2.t (fk.z.t (y7.z.t (vk.z.t t7.z)))⟩⟩
      · rw [if_pos (by omega)]
      · rw [e_X12_layState, if_neg cz, eL, xb_some, if_neg (by decide), y4, if_neg (by have := i1.mp ck; omega), e_X12_play, v2, xb_some, gy.2, xb_some, if_pos (by omega)]
    · refine ⟨0, hZ, gE, C0 _ ?_, ?_, Or.inl ⟨rfl, u3.1.2.1, fc.t u6, B2.t (fk.z.t y7.z), y3.2.1.1.1.2.2.2⟩⟩
      · rw [if_neg (by omega)]
      · have i2 : ¬ z.toNat ≤ k2 := fun w => ck (i1.mpr w)
        rw [e_X12_layState, if_neg cz, eL, xb_some, if_neg (by decide), y4, if_pos (by omega)]
theorem stS.k {z : Int} {h g h2 g2 : yH} (E : stS z h (zup g 35 0 0) h2 g2) (R : RR True h g) (hL : lnI h) (hm : h 4 1 ≤ 600) : dyK h g h2 g2 := by
  obtain ⟨b, e, s, dd, t, d, S, q, c, p, hT, D, -, fc, fz⟩ := E
  exact ⟨(R.c0 hL hm).z hL hm fc fz D.2.1.1.1.2.2.2, D.1.2.1, fc, fun a j w1 w2 => (fz a j (by omega)).trans (zup_ne (by omega))⟩
theorem st0.k {h g h2 g2 : yH} (E : st0 h (zup g 35 0 0) h2 g2) (R : RR True h g) (hL : lnI h) (hm : h 4 1 ≤ 600) : dyK h g h2 g2 := by
  obtain ⟨hp, fc, fz, hq⟩ := E
  exact ⟨(R.c0 hL hm).z hL hm fc fz hq, hp, fc, fun a j w1 w2 => (fz a j (by omega)).trans (zup_ne (by omega))⟩
theorem stateD {m n : Nat} {x y z : Int} {h g : yH} (hn : 300 ≤ n) (hm : 300 ≤ m) (R : RR True h g) (hW : WH g) (hp : cPr h) (h13 : h 1 3 = 130) (hL : lnI h) (hl : h 4 1 ≤ 600) (hq : rQ g) (h4 : ∀ j, j < 12 → 0 ≤ g 4 j ∧ g 4 j ≤ 2) :
    ∃ v h2 g2, f_X11_runToState n [1, x, y, z] h = some (v, h2) ∧ f_X12_layState m [35, x, y, z] (zup g 35 0 0) = some (v, g2) ∧ h2 1 3 = 130 ∧ dyK h g h2 g2 ∧ (v = 0 ∨ (v = 1 ∧ stS z h (zup g 35 0 0) h2 g2)) := by
  obtain ⟨v, h2, g2, e1, e2, e3⟩ := toState2 (x := x) (y := y) (z := z) hn hm (R.c0 hL hl) hW.c0 hp h13 (c0_q hq) (c0_4 h4)
  rcases e3 with ⟨ev, e3⟩ | ⟨ev, e3⟩
  · have k := e3.k R hL hl
    exact ⟨v, h2, g2, e1, e2, by rw [k.2.2.1 _ _ (by omega)]; exact h13, k, Or.inl ev⟩
  · have k := e3.k R hL hl
    exact ⟨v, h2, g2, e1, e2, by rw [k.2.2.1 _ _ (by omega)]; exact h13, k, Or.inr ⟨ev, e3⟩⟩
/-! there, for any number; the boats -/
theorem thereX {b e s dd : Nat} {t d : Nat → Int} {K : Int} {S q c : Nat} {p : Nat → Int} {h g : yH} {n m : Nat} {x : Int} (H : dR b e s dd t d K S q c p h g) :
    (¬ (0 ≤ x ∧ x < 6) ∧ f_X7_isThere n [131, x] h = some (0, h) ∧ f_X12_isThere m [35, x] g = some (0, g)) ∨ ∃ i : Nat, x = (i : Int) ∧ i < 6 ∧ f_X7_isThere n [131, x] h = some (if i < S ∧ 0 < g 14 i then 1 else 0, h) ∧ f_X12_isThere m [35, x] g = some (if i < S ∧ 0 < g 14 i then 1 else 0, g) := by
  obtain ⟨S6, k2, k3, k4, k5⟩ := id H.2.2.2.1
  by_cases w : 0 ≤ x ∧ x < 6
  · obtain ⟨i, rfl⟩ : ∃ i : Nat, x = (i : Int) := ⟨x.toNat, by omega⟩
    obtain ⟨t1, t2⟩ := there2 (n := n) (m := m) H (show i < 6 by omega)
    exact Or.inr ⟨i, rfl, by omega, t1, t2⟩
  · refine Or.inl ⟨w, ?_, ?_⟩
    · rw [e_X7_isThere]
      by_cases w2 : x < 0
      · rw [if_pos w2]
      · rw [if_neg w2, if_neg (by omega)]
    · rw [e_X12_isThere, k3, xg_pos (by omega), in_f (by omega), xb_some, if_pos rfl]
end
section
/-! state -/
theorem RR_state {m n : Nat} {x y z k w : Int} {h g : yH} (hn : 300 ≤ n) (hm : 300 ≤ m) (R : RR True h g) (hW : WH g) (hp : cPr h) (h13 : h 1 3 = 130) (hL : lnI h) (hl : h 4 1 ≤ 600) (hq : rQ g) (h4 : ∀ j, j < 12 → 0 ≤ g 4 j ∧ g 4 j ≤ 2) : ∃ v h2 g2, f_X11_state n [1, x, y, z, k, w] h = some (v, h2) ∧ f_X12_state m [35, x, y, z, k, w] g = some (v, g2) ∧ dyK h g h2 g2 := by
  obtain ⟨v, h2, g2, e1, e2, e13, kk, e3⟩ := stateD (x := x) (y := y) (z := z) hn hm R hW hp h13 hL hl hq h4
  rcases e3 with ev | ⟨ev, e3⟩
  · refine ⟨-2, h2, g2, ?_, ?_, kk⟩
    · rw [e_X11_state, e1, xb_some, if_pos ev]
    · rw [e_X12_state, e2, xb_some, if_pos ev]
  obtain ⟨b, e, s, dd, t, d, S, q, c, p, hT, D, hz, -, -⟩ := e3
  obtain ⟨p1, p2, p3, p4, p5, p6, p7, p8, p9, p10, p11⟩ := id D.1.2.1
  have Q : ∀ {j : Nat} {k : Int}, (j, k) ∈ rQL → g2 35 j = k := fun hm => D.Q hm
  obtain ⟨nn1, nn2, -⟩ := id D.2.2.1
  have C0 : ∀ r : yO, (xb (f_X7_isThere n [131, k] h2) (fun v3 h3 => if v3 = 0 then (some ((-2), h3)) else (xg (h3 1 3 = 130) (xg (h3 130 2 = 131) (xb (f_X7_holderAt n [131, k, z] h3) (fun v4 h4 => if v4 = (-1) then (xq_X11_state_54 n [1, x, y, z, k, w, 131, 0] h4) else (xq_X11_state_54 n [1, x, y, z, k, w, 131, 1] h4))))))) = r → f_X11_state n [1, x, y, z, k, w] h = r := fun r er => by
    rw [e_X11_state, e1, xb_some, if_neg (by omega), xg_pos e13, xg_pos p1]
    exact er
  have R0 : ∀ r : yO, (xb (f_X12_isThere m [35, k] g2) (fun v3 h3 => if v3 = 0 then (some ((-2), h3)) else (xb (f_X12_holderNow m [35, k] h3) (fun v4 h4 => if v4 = (-1) then (xq_X12_state_42 m [35, x, y, z, k, w, 0] h4) else (xq_X12_state_42 m [35, x, y, z, k, w, 1] h4))))) = r → f_X12_state m [35, x, y, z, k, w] g = r := fun r er => by
    rw [e_X12_state, e2, xb_some, if_neg (by omega)]
    exact er
  rcases thereX (n := n) (m := m) (x := k) D with ⟨-, t1, t2⟩ | ⟨i, rfl, i6, t1, t2⟩
  · refine ⟨-2, h2, g2, C0 _ ?_, R0 _ ?_, kk⟩
    · rw [t1, xb_some, if_pos rfl]
    · rw [t2, xb_some, if_pos rfl]
  by_cases cT : i < S ∧ 0 < g2 14 i
  rotate_left
  · rw [if_neg cT] at t1 t2
    refine ⟨-2, h2, g2, C0 _ ?_, R0 _ ?_, kk⟩
    · rw [t1, xb_some, if_pos rfl]
    · rw [t2, xb_some, if_pos rfl]
  rw [if_pos cT] at t1 t2
  obtain ⟨⟨d1, d2, d3, d4, d5, d6⟩, d7⟩ := (D.2.2.2.1.2.2.2.2 i i6).2.1 cT.1
  obtain ⟨f1, f2, f3, f4, f5, f6⟩ := d7 cT.2
  have hA := holderAt_e (n := n) (hr := z) D.1.2.1 i6
  have hN := holderNow_e (n := m) D.2.1.1.1.2.2.2 i6
  rw [f5, f6] at hA
  rw [hz] at hN
  have key : ∀ y0 : Int, ∃ v, xq_X11_state_54 n [1, x, y, z, (i : Int), w, 131, y0] h2 = some (v, h2) ∧ xq_X12_state_42 m [35, x, y, z, (i : Int), w, y0] g2 = some (v, g2) := by
    intro y0
    by_cases c0 : w = 0
    · refine ⟨g2 13 i, ?_, ?_⟩
      · rw [e_X11_state_54, if_pos c0, show (131 : Int).toNat = 131 from rfl, xg_pos p6, xg_pos (by omega), Int.toNat_natCast, f1]
      · rw [e_X12_state_42, if_pos c0, xg_pos (Q (j := 36) (k := 13) (by decide)), xg_pos (by omega), Int.toNat_natCast]
    by_cases c1 : w = 1
    · refine ⟨g2 14 i, ?_, ?_⟩
      · rw [e_X11_state_54, if_neg c0, if_pos c1, show (131 : Int).toNat = 131 from rfl, xg_pos p7, xg_pos (by omega), Int.toNat_natCast, f2]
      · rw [e_X12_state_42, if_neg c0, if_pos c1, xg_pos (Q (j := 37) (k := 14) (by decide)), xg_pos (by omega), Int.toNat_natCast]
    by_cases c2 : w = 2
    · refine ⟨hdN (g2 16 i) (g2 20 i) z, ?_, ?_⟩
      · rw [e_X11_state_54, if_neg c0, if_neg c1, if_pos c2, hA, xb_some]
      · rw [e_X12_state_42, if_neg c0, if_neg c1, if_pos c2, hN, xb_some]
    by_cases c3 : w = 3
    · by_cases cy : y0 = 0
      · refine ⟨0, ?_, ?_⟩
        · rw [e_X11_state_54, if_neg c0, if_neg c1, if_neg c2, if_pos c3, if_pos cy]
        · rw [e_X12_state_42, if_neg c0, if_neg c1, if_neg c2, if_pos c3, if_pos cy]
      · refine ⟨g2 19 i, ?_, ?_⟩
        · rw [e_X11_state_54, if_neg c0, if_neg c1, if_neg c2, if_pos c3, if_neg cy, show (131 : Int).toNat = 131 from rfl, xg_pos p9, xg_pos (by omega), Int.toNat_natCast, f4]
        · rw [e_X12_state_42, if_neg c0, if_neg c1, if_neg c2, if_pos c3, if_neg cy, xg_pos (Q (j := 40) (k := 19) (by decide)), xg_pos (by omega), Int.toNat_natCast]
    by_cases c4 : w = 4
    · by_cases cy : y0 = 0
      · refine ⟨0, ?_, ?_⟩
        · rw [e_X11_state_54, if_neg c0, if_neg c1, if_neg c2, if_neg c3, if_pos c4, if_pos cy]
        · rw [e_X12_state_42, if_neg c0, if_neg c1, if_neg c2, if_neg c3, if_pos c4, if_pos cy]
      · refine ⟨g2 16 i - z + 1, ?_, ?_⟩
        · rw [e_X11_state_54, if_neg c0, if_neg c1, if_neg c2, if_neg c3, if_pos c4, if_neg cy, show (131 : Int).toNat = 131 from rfl, xg_pos p10, xg_pos (by omega), Int.toNat_natCast, f5, xg_pos (by omega), xg_pos (by omega)]
        · rw [e_X12_state_42, if_neg c0, if_neg c1, if_neg c2, if_neg c3, if_pos c4, if_neg cy, xg_pos (Q (j := 41) (k := 16) (by decide)), xg_pos (by omega), Int.toNat_natCast, hz, xg_pos (by omega), xg_pos (by omega)]
    by_cases c5 : w = 5
    · refine ⟨g2 15 i, ?_, ?_⟩
      · rw [e_X11_state_54, if_neg c0, if_neg c1, if_neg c2, if_neg c3, if_neg c4, if_pos c5, show (131 : Int).toNat = 131 from rfl, xg_pos p8, xg_pos (by omega), Int.toNat_natCast, f3]
      · rw [e_X12_state_42, if_neg c0, if_neg c1, if_neg c2, if_neg c3, if_neg c4, if_pos c5, xg_pos (Q (j := 38) (k := 15) (by decide)), xg_pos (by omega), Int.toNat_natCast]
    · refine ⟨-2, ?_, ?_⟩
      · rw [e_X11_state_54, if_neg c0, if_neg c1, if_neg c2, if_neg c3, if_neg c4, if_neg c5]
      · rw [e_X12_state_42, if_neg c0, if_neg c1, if_neg c2, if_neg c3, if_neg c4, if_neg c5]
  by_cases ch : hdN (g2 16 i) (g2 20 i) z = -1
  · obtain ⟨v, a1, a2⟩ := key 0
    refine ⟨v, h2, g2, C0 _ ?_, R0 _ ?_, kk⟩
    · rw [t1, xb_some, if_neg (by decide), xg_pos e13, xg_pos p1, hA, xb_some, if_pos ch]
      exact a1
    · rw [t2, xb_some, if_neg (by decide), hN, xb_some, if_pos ch]
      exact a2
  · obtain ⟨v, a1, a2⟩ := key 1
    refine ⟨v, h2, g2, C0 _ ?_, R0 _ ?_, kk⟩
    · rw [t1, xb_some, if_neg (by decide), xg_pos e13, xg_pos p1, hA, xb_some, if_neg ch]
      exact a1
    · rw [t2, xb_some, if_neg (by decide), hN, xb_some, if_neg ch]
      exact a2
/-! lack -/
theorem RR_lack {m n : Nat} {x y z k w : Int} {h g : yH} (hn : 300 ≤ n) (hm : 300 ≤ m) (R : RR True h g) (hW : WH g) (hp : cPr h) (h13 : h 1 3 = 130) (hL : lnI h) (hl : h 4 1 ≤ 600) (hq : rQ g) (h4 : ∀ j, j < 12 → 0 ≤ g 4 j ∧ g 4 j ≤ 2) : ∃ v h2 g2, f_X11_lack n [1, x, y, z, k, w] h = some (v, h2) ∧ f_X12_lack m [35, x, y, z, k, w] g = some (v, g2) ∧ dyK h g h2 g2 := by
  obtain ⟨v, h2, g2, e1, e2, e13, kk, e3⟩ := stateD (x := x) (y := y) (z := z) hn hm R hW hp h13 hL hl hq h4
  rcases e3 with ev | ⟨ev, e3⟩
  · refine ⟨-1, h2, g2, ?_, ?_, kk⟩
    · rw [e_X11_lack, e1, xb_some, if_pos ev]
    · rw [e_X12_lack, e2, xb_some, if_pos ev]
  obtain ⟨b, e, s, dd, t, d, S, q, c, p, hT, D, hz, -, -⟩ := e3
  obtain ⟨-, p0, p1, p2, p3, -⟩ := id D.1
  have C0 : ∀ r : yO, (xb (f_X6_hasBoat n [(b : Int), k] h2) (fun v2 h2 => if v2 = 0 then (some ((-1), h2)) else (xg (h2 1 3 = 130) (xg (h2 130 2 = 131) (xb (f_X7_isThere n [131, w] h2) (fun v3 h3 => if v3 = 0 then (some ((-1), h3)) else (xg (h3 1 3 = 130) (xg (h3 1 3 = 130) (xb (f_X5_hearersNow n [130, k] h3) (fun v4 h4 => xb (f_X5_lacking n [130, k, w, v4] h4) (fun v5 h5 => some (v5, h5)))))))))))) = r → f_X11_lack n [1, x, y, z, k, w] h = r := fun r er => by
    rw [e_X11_lack, e1, xb_some, if_neg (by omega), xg_pos e13, p1, xg_pos (by omega)]
    exact er
  have R0 : ∀ r : yO, (xb (f_X12_isBoat m [35, k] g2) (fun v2 h2 => if v2 = 0 then (some ((-1), h2)) else (xb (f_X12_isThere m [35, w] h2) (fun v3 h3 => if v3 = 0 then (some ((-1), h3)) else (xb (f_X12_lawOf m [35, k, 0] h3) (fun v4 h4 => xb (f_X12_hearersOf m [35, k] h4) (fun v5 h5 => xb (f_X12_lackOf m [35, k, w, v4, v5] h5) (fun v6 h6 => some (v6, h6))))))))) = r → f_X12_lack m [35, x, y, z, k, w] g = r := fun r er => by
    rw [e_X12_lack, e2, xb_some, if_neg (by omega)]
    exact er
  by_cases ck : 0 ≤ k ∧ k < t 6
  rotate_left
  · refine ⟨-1, h2, g2, C0 _ ?_, R0 _ ?_, kk⟩
    · rw [hasBoat_e p3, xb_some, if_neg ck, if_pos rfl]
    · rw [isBoatR_e D hT, xb_some, if_neg ck, if_pos rfl]
  obtain ⟨a, rfl⟩ : ∃ a : Nat, k = (a : Int) := ⟨k.toNat, by omega⟩
  have hb := hrs_b (a := a) (D.W hT)
  rcases thereX (n := n) (m := m) (x := w) D with ⟨-, t1, t2⟩ | ⟨i, rfl, i6, t1, t2⟩
  · refine ⟨-1, h2, g2, C0 _ ?_, R0 _ ?_, kk⟩
    · rw [hasBoat_e p3, xb_some, if_pos ck, if_neg (by decide), xg_pos e13, xg_pos p0.1, t1, xb_some, if_pos rfl]
    · rw [isBoatR_e D hT, xb_some, if_pos ck, if_neg (by decide), t2, xb_some, if_pos rfl]
  by_cases cT : i < S ∧ 0 < g2 14 i
  rotate_left
  · rw [if_neg cT] at t1 t2
    refine ⟨-1, h2, g2, C0 _ ?_, R0 _ ?_, kk⟩
    · rw [hasBoat_e p3, xb_some, if_pos ck, if_neg (by decide), xg_pos e13, xg_pos p0.1, t1, xb_some, if_pos rfl]
    · rw [isBoatR_e D hT, xb_some, if_pos ck, if_neg (by decide), t2, xb_some, if_pos rfl]
  rw [if_pos cT] at t1 t2
  obtain ⟨L1, L2⟩ := lack2 (n := n) (m := m) (w := hrs (bU t p) a) (said := lawV t a 0) D hT (by omega) ck.2 cT.1 cT.2 hb
  have l0 := lawOf_e (n := m) (w := 0) D.2.1.1.1 hT.1 (D.bp hT ck.2).2.2.1 (by decide)
  rw [show ((0 : Nat) : Int) = 0 from rfl] at l0
  rw [if_neg (Int.lt_irrefl _), Int.add_zero] at L2
  refine ⟨lkC t a (hdN (g2 16 i) (g2 20 i) (g2 35 34)) (hrs (bU t p) a) (p a) (g2 13 i), h2, g2, C0 _ ?_, R0 _ ?_, kk⟩
  · rw [hasBoat_e p3, xb_some, if_pos ck, if_neg (by decide), xg_pos e13, xg_pos p0.1, t1, xb_some, if_neg (by decide), xg_pos e13, xg_pos e13, hearC_e D hT (by omega) ck.2, xb_some, L1, xb_some]
  · rw [isBoatR_e D hT, xb_some, if_pos ck, if_neg (by decide), t2, xb_some, if_neg (by decide), l0, xb_some, hearR_e D hT (by omega) ck.2, xb_some, L2, xb_some]
end
section
/-! has: what is claimable, what is held -/
def acB (f : Nat → Bool) : Nat → Int
  | 0 => 0
  | k + 1 => if f k = true then yari 8 (acB f k) (yari 5 1 (k : Int)) else acB f k
theorem acB_b {f : Nat → Bool} : ∀ k, k ≤ 6 → 0 ≤ acB f k ∧ acB f k ≤ 63 := by
  intro k
  induction k with
  | zero => intro _; exact ⟨Int.le_refl _, (by decide : (0 : Int) ≤ 63)⟩
  | succ k ih =>
    intro hk
    have := ih (by omega)
    show 0 ≤ (if f k = true then yari 8 (acB f k) (yari 5 1 (k : Int)) else acB f k) ∧ (if f k = true then yari 8 (acB f k) (yari 5 1 (k : Int)) else acB f k) ≤ 63
    by_cases c : f k = true
    · rw [if_pos c]; exact or6 this (by omega)
    · rw [if_neg c]; exact this
theorem acB_z {f : Nat → Bool} {S : Nat} (hf : ∀ i, S ≤ i → f i = false) : ∀ m, acB f (S + m) = acB f S := by
  intro m
  induction m with
  | zero => rfl
  | succ m ih =>
    show (if f (S + m) = true then yari 8 (acB f (S + m)) (yari 5 1 ((S + m : Nat) : Int)) else acB f (S + m)) = acB f S
    rw [hf _ (by omega), if_neg (by decide), ih]
theorem acB_6 {f : Nat → Bool} {S : Nat} (hf : ∀ i, S ≤ i → f i = false) (hS : S ≤ 6) : acB f 6 = acB f S := by
  have := acB_z hf (6 - S)
  rw [show S + (6 - S) = 6 by omega] at this
  exact this
/-- claimable by a boat -/
def clF (t : Nat → Int) (p : Nat → Int) (a S : Nat) (g : yH) (i : Nat) : Bool := decide (i < S) && (decide (0 < g 14 i) && decide (lkC t a (hdN (g 16 i) (g 20 i) (g 35 34)) (hrs (bU t p) a) (p a) (g 13 i) = 0))
theorem clF_t {t p : Nat → Int} {a S : Nat} {g : yH} {i : Nat} : clF t p a S g i = true ↔ (i < S ∧ 0 < g 14 i) ∧ lkC t a (hdN (g 16 i) (g 20 i) (g 35 34)) (hrs (bU t p) a) (p a) (g 13 i) = 0 := by
  unfold clF
  simp only [Bool.and_eq_true, decide_eq_true_eq]
  exact ⟨fun w => ⟨⟨w.1, w.2.1⟩, w.2.2⟩, fun w => ⟨w.1.1, w.1.2, w.2⟩⟩
theorem clmC_l {b e s dd : Nat} {t d : Nat → Int} {K : Int} {S q c : Nat} {p : Nat → Int} {h g : yH} {a : Nat} (H : dR b e s dd t d K S q c p h g) (hT : dT t d) (ha : (a : Int) < t 6) : ∀ (mm k n : Nat), mm + k = 6 → mm < n → xl_X5_claimable n 11 [130, (a : Int), hrs (bU t p) a, acB (clF t p a S g) k, (k : Int)] h = some (acB (clF t p a S g) 6, h) := by
  intro mm
  induction mm with
  | zero =>
    intro k n e1 e2
    obtain ⟨n, rfl⟩ : ∃ n', n = n' + 1 := ⟨n - 1, by omega⟩
    rw [e_X5_claimable_11, if_neg (by omega), show k = 6 by omega]
  | succ mm ih =>
    intro k n e1 e2
    obtain ⟨n, rfl⟩ : ∃ n', n = n' + 1 := ⟨n - 1, by omega⟩
    have nx := ih (k + 1) n (by omega) (by omega)
    obtain ⟨t1, -⟩ := there2 (n := n) (m := 0) H (show k < 6 by omega)
    have st : acB (clF t p a S g) (k + 1) = if clF t p a S g k = true then yari 8 (acB (clF t p a S g) k) (yari 5 1 (k : Int)) else acB (clF t p a S g) k := rfl
    rw [st] at nx
    rw [e_X5_claimable_11, if_pos (by omega), xg_pos H.1.2.1.1, t1, xb_some]
    by_cases cT : k < S ∧ 0 < g 14 k
    · obtain ⟨L1, -⟩ := lack2 (n := n) (m := 17) (w := hrs (bU t p) a) (said := 0) H hT (by omega) ha cT.1 cT.2 (hrs_b (H.W hT))
      rw [if_pos cT, if_neg (by decide), L1, xb_some]
      by_cases c0 : lkC t a (hdN (g 16 k) (g 20 k) (g 35 34)) (hrs (bU t p) a) (p a) (g 13 k) = 0
      · rw [if_pos c0, xg_pos (by omega), show (k : Int) + 1 = ((k + 1 : Nat) : Int) by omega]
        rw [if_pos (clF_t.mpr ⟨cT, c0⟩)] at nx
        exact nx
      · rw [if_neg c0, xg_pos (by omega), show (k : Int) + 1 = ((k + 1 : Nat) : Int) by omega]
        rw [if_neg (fun w => c0 (clF_t.mp w).2)] at nx
        exact nx
    · rw [if_neg cT, if_pos rfl, xg_pos (by omega), show (k : Int) + 1 = ((k + 1 : Nat) : Int) by omega]
      rw [if_neg (fun w => cT (clF_t.mp w).1)] at nx
      exact nx
theorem aloR_l {b e s dd : Nat} {t d : Nat → Int} {K : Int} {S q c : Nat} {p : Nat → Int} {h g : yH} {a : Nat} (H : dR b e s dd t d K S q c p h g) (hT : dT t d) (ha : (a : Int) < t 6) : ∀ (mm k m : Nat), mm + k = S → mm + 18 ≤ m → xl_X12_aloneOf m 4 [35, (a : Int), acB (clF t p a S g) k, (k : Int)] g = some (acB (clF t p a S g) S, g) := by
  have S6 : S ≤ 6 := H.2.2.2.1.1
  have k3 := H.2.2.2.1.2.2.1
  have l0 := fun m => lawOf_e (n := m) (w := 0) H.2.1.1.1 hT.1 (H.bp hT ha).2.2.1 (by decide)
  rw [show ((0 : Nat) : Int) = 0 from rfl] at l0
  intro mm
  induction mm with
  | zero =>
    intro k m e1 e2
    obtain ⟨m, rfl⟩ : ∃ m', m = m' + 1 := ⟨m - 1, by omega⟩
    rw [e_X12_aloneOf_4, k3, if_neg (by omega), show k = S by omega]
  | succ mm ih =>
    intro k m e1 e2
    obtain ⟨m, rfl⟩ : ∃ m', m = m' + 1 := ⟨m - 1, by omega⟩
    have nx := ih (k + 1) m (by omega) (by omega)
    have bb := acB_b (f := clF t p a S g) k (by omega)
    have st : acB (clF t p a S g) (k + 1) = if clF t p a S g k = true then yari 8 (acB (clF t p a S g) k) (yari 5 1 (k : Int)) else acB (clF t p a S g) k := rfl
    rw [st] at nx
    rw [e_X12_aloneOf_4, k3, if_pos (by omega), xg_pos (H.Q (j := 37) (k := 14) (by decide)), xg_pos (by omega), Int.toNat_natCast k]
    by_cases cT : 0 < g 14 k
    · obtain ⟨-, L2⟩ := lack2 (n := 0) (m := m) (w := hrs (bU t p) a) (said := lawV t a 0) H hT (by omega) ha (show k < S by omega) cT (hrs_b (H.W hT))
      rw [if_neg (Int.lt_irrefl _), Int.add_zero] at L2
      rw [if_pos cT, l0, xb_some, hearR_e H hT (by omega) ha, xb_some, L2, xb_some]
      by_cases c0 : lkC t a (hdN (g 16 k) (g 20 k) (g 35 34)) (hrs (bU t p) a) (p a) (g 13 k) = 0
      · rw [if_pos c0, xg_pos (by omega), show (k : Int) + 1 = ((k + 1 : Nat) : Int) by omega]
        rw [if_pos (clF_t.mpr ⟨⟨by omega, cT⟩, c0⟩)] at nx
        exact nx
      · rw [if_neg c0, xg_pos (by omega), or0 bb, show (k : Int) + 1 = ((k + 1 : Nat) : Int) by omega]
        rw [if_neg (fun w => c0 (clF_t.mp w).2)] at nx
        exact nx
    · rw [if_neg cT, xg_pos (by omega), or0 bb, show (k : Int) + 1 = ((k + 1 : Nat) : Int) by omega]
      rw [if_neg (fun w => cT (clF_t.mp w).1.2)] at nx
      exact nx
/-- held by a boat -/
def hlF (a S : Nat) (g : yH) (i : Nat) : Bool := decide (i < S) && (decide (0 < g 14 i) && decide (hdN (g 16 i) (g 20 i) (g 35 34) = (a : Int)))
theorem hlF_t {a S : Nat} {g : yH} {i : Nat} : hlF a S g i = true ↔ (i < S ∧ 0 < g 14 i) ∧ hdN (g 16 i) (g 20 i) (g 35 34) = (a : Int) := by
  unfold hlF
  simp only [Bool.and_eq_true, decide_eq_true_eq]
  exact ⟨fun w => ⟨⟨w.1, w.2.1⟩, w.2.2⟩, fun w => ⟨w.1.1, w.1.2, w.2⟩⟩
theorem hldC_l {b e s dd : Nat} {t d : Nat → Int} {K : Int} {S q c : Nat} {p : Nat → Int} {h g : yH} {a : Nat} (H : dR b e s dd t d K S q c p h g) : ∀ (mm k n : Nat), mm + k = 6 → mm < n → xl_X7_heldBy n 5 [131, (a : Int), g 35 34, acB (hlF a S g) k, (k : Int)] h = some (acB (hlF a S g) 6, h) := by
  intro mm
  induction mm with
  | zero =>
    intro k n e1 e2
    obtain ⟨n, rfl⟩ : ∃ n', n = n' + 1 := ⟨n - 1, by omega⟩
    rw [e_X7_heldBy_5, if_neg (by omega), show k = 6 by omega]
  | succ mm ih =>
    intro k n e1 e2
    obtain ⟨n, rfl⟩ : ∃ n', n = n' + 1 := ⟨n - 1, by omega⟩
    have nx := ih (k + 1) n (by omega) (by omega)
    obtain ⟨t1, -⟩ := there2 (n := n) (m := 0) H (show k < 6 by omega)
    have st : acB (hlF a S g) (k + 1) = if hlF a S g k = true then yari 8 (acB (hlF a S g) k) (yari 5 1 (k : Int)) else acB (hlF a S g) k := rfl
    rw [st] at nx
    rw [e_X7_heldBy_5, if_pos (by omega), t1, xb_some]
    by_cases cT : k < S ∧ 0 < g 14 k
    · obtain ⟨f1, f2, f3, f4, f5, f6⟩ := ((H.2.2.2.1.2.2.2.2 k (by omega)).2.1 cT.1).2 cT.2
      rw [if_pos cT, if_neg (by decide), holderAt_e H.1.2.1 (by omega), xb_some, f5, f6]
      by_cases c0 : hdN (g 16 k) (g 20 k) (g 35 34) = (a : Int)
      · rw [if_pos c0, xg_pos (by omega), show (k : Int) + 1 = ((k + 1 : Nat) : Int) by omega]
        rw [if_pos (hlF_t.mpr ⟨cT, c0⟩)] at nx
        exact nx
      · rw [if_neg c0, xg_pos (by omega), show (k : Int) + 1 = ((k + 1 : Nat) : Int) by omega]
        rw [if_neg (fun w => c0 (hlF_t.mp w).2)] at nx
        exact nx
    · rw [if_neg cT, if_pos rfl, xg_pos (by omega), show (k : Int) + 1 = ((k + 1 : Nat) : Int) by omega]
      rw [if_neg (fun w => cT (hlF_t.mp w).1)] at nx
      exact nx
theorem hldR_l {b e s dd : Nat} {t d : Nat → Int} {K : Int} {S q c : Nat} {p : Nat → Int} {h g : yH} {a : Nat} (H : dR b e s dd t d K S q c p h g) : ∀ (mm k m : Nat), mm + k = S → mm < m → xl_X12_holdsOf m 4 [35, (a : Int), acB (hlF a S g) k, (k : Int)] g = some (acB (hlF a S g) S, g) := by
  have S6 : S ≤ 6 := H.2.2.2.1.1
  have k3 := H.2.2.2.1.2.2.1
  intro mm
  induction mm with
  | zero =>
    intro k m e1 e2
    obtain ⟨m, rfl⟩ : ∃ m', m = m' + 1 := ⟨m - 1, by omega⟩
    rw [e_X12_holdsOf_4, k3, if_neg (by omega), show k = S by omega]
  | succ mm ih =>
    intro k m e1 e2
    obtain ⟨m, rfl⟩ : ∃ m', m = m' + 1 := ⟨m - 1, by omega⟩
    have nx := ih (k + 1) m (by omega) (by omega)
    have bb := acB_b (f := hlF a S g) k (by omega)
    have st : acB (hlF a S g) (k + 1) = if hlF a S g k = true then yari 8 (acB (hlF a S g) k) (yari 5 1 (k : Int)) else acB (hlF a S g) k := rfl
    rw [st] at nx
    rw [e_X12_holdsOf_4, k3, if_pos (by omega), xg_pos (H.Q (j := 37) (k := 14) (by decide)), xg_pos (by omega), Int.toNat_natCast k]
    by_cases cT : 0 < g 14 k
    · rw [if_pos cT, holderNow_e H.2.1.1.1.2.2.2 (by omega), xb_some]
      by_cases c0 : hdN (g 16 k) (g 20 k) (g 35 34) = (a : Int)
      · rw [if_pos c0, xg_pos (by omega), show (k : Int) + 1 = ((k + 1 : Nat) : Int) by omega]
        rw [if_pos (hlF_t.mpr ⟨⟨by omega, cT⟩, c0⟩)] at nx
        exact nx
      · rw [if_neg c0, xg_pos (by omega), or0 bb, show (k : Int) + 1 = ((k + 1 : Nat) : Int) by omega]
        rw [if_neg (fun w => c0 (hlF_t.mp w).2)] at nx
        exact nx
    · rw [if_neg cT, xg_pos (by omega), or0 bb, show (k : Int) + 1 = ((k + 1 : Nat) : Int) by omega]
      rw [if_neg (fun w => cT (hlF_t.mp w).1.2)] at nx
      exact nx
theorem RR_has {m n : Nat} {x y z k w : Int} {h g : yH} (hn : 300 ≤ n) (hm : 300 ≤ m) (R : RR True h g) (hW : WH g) (hp : cPr h) (h13 : h 1 3 = 130) (hL : lnI h) (hl : h 4 1 ≤ 600) (hq : rQ g) (h4 : ∀ j, j < 12 → 0 ≤ g 4 j ∧ g 4 j ≤ 2) : ∃ v h2 g2, f_X11_has n [1, x, y, z, k, w] h = some (v, h2) ∧ f_X12_has m [35, x, y, z, k, w] g = some (v, g2) ∧ dyK h g h2 g2 := by
  obtain ⟨v, h2, g2, e1, e2, e13, kk, e3⟩ := stateD (x := x) (y := y) (z := z) hn hm R hW hp h13 hL hl hq h4
  rcases e3 with ev | ⟨ev, e3⟩
  · refine ⟨-2, h2, g2, ?_, ?_, kk⟩
    · rw [e_X11_has, e1, xb_some, if_pos ev]
    · rw [e_X12_has, e2, xb_some, if_pos ev]
  obtain ⟨b, e, s, dd, t, d, S, q, c, p, hT, D, hz, -, -⟩ := e3
  obtain ⟨-, p0, p1, p2, p3, -⟩ := id D.1
  have S6 : S ≤ 6 := D.2.2.2.1.1
  have Q : ∀ {j : Nat} {k : Int}, (j, k) ∈ rQL → g2 35 j = k := fun hm => D.Q hm
  have C0 : ∀ r : yO, (xb (f_X6_hasBoat n [(b : Int), k] h2) (fun v2 h2 => if v2 = 0 then (some ((-2), h2)) else (if w = 0 then (xg (h2 1 3 = 130) (xg (h2 130 3 = 138) (xg (0 ≤ k ∧ k < 6) (some ((h2 138 k.toNat), h2))))) else (if w = 1 then (xg (h2 1 3 = 130) (xg (h2 130 4 = 139) (xg (0 ≤ k ∧ k < 6) (some ((h2 139 k.toNat), h2))))) else (if w = 2 then (xg (h2 1 3 = 130) (xb (f_X5_claimable n [130, k] h2) (fun v4 h4 => some (v4, h4)))) else (if w = 3 then (xg (h2 1 3 = 130) (xg (h2 130 2 = 131) (xb (f_X7_heldBy n [131, k, z] h2) (fun v3 h3 => some (v3, h3))))) else (if w = 4 then (xg (h2 1 3 = 130) (xg (h2 130 5 = 140) (xg (0 ≤ k ∧ k < 6) (some ((h2 140 k.toNat), h2))))) else (some ((-2), h2))))))))) = r → f_X11_has n [1, x, y, z, k, w] h = r := fun r er => by
    rw [e_X11_has, e1, xb_some, if_neg (by omega), xg_pos e13, p1, xg_pos (by omega)]
    exact er
  have R0 : ∀ r : yO, (xb (f_X12_isBoat m [35, k] g2) (fun v2 h2 => if v2 = 0 then (some ((-2), h2)) else (if w = 0 then (xg (h2 35 30 = 10) (xg (0 ≤ k ∧ k < 6) (some ((h2 10 k.toNat), h2)))) else (if w = 1 then (xg (h2 35 42 = 17) (xg (0 ≤ k ∧ k < 6) (some ((h2 17 k.toNat), h2)))) else (if w = 2 then (xb (f_X12_aloneOf m [35, k] h2) (fun v4 h4 => some (v4, h4))) else (if w = 3 then (xb (f_X12_holdsOf m [35, k] h2) (fun v3 h3 => some (v3, h3))) else (if w = 4 then (xg (h2 35 43 = 18) (xg (0 ≤ k ∧ k < 6) (some ((h2 18 k.toNat), h2)))) else (some ((-2), h2))))))))) = r → f_X12_has m [35, x, y, z, k, w] g = r := fun r er => by
    rw [e_X12_has, e2, xb_some, if_neg (by omega)]
    exact er
  by_cases ck : 0 ≤ k ∧ k < t 6
  rotate_left
  · refine ⟨-2, h2, g2, C0 _ ?_, R0 _ ?_, kk⟩
    · rw [hasBoat_e p3, xb_some, if_neg ck, if_pos rfl]
    · rw [isBoatR_e D hT, xb_some, if_neg ck, if_pos rfl]
  obtain ⟨a, rfl⟩ : ∃ a : Nat, k = (a : Int) := ⟨k.toNat, by omega⟩
  obtain ⟨w1, w2, w3, w4, w5⟩ := D.bp hT ck.2
  obtain ⟨⟨q1, -⟩, ⟨q3, -⟩, q5, -⟩ := D.2.2.2.2.2 a ck.2
  have hb := hasBoat_e (n := n) (k := (a : Int)) p3
  rw [if_pos ck] at hb
  have ib := isBoatR_e (m := m) (x := (a : Int)) D hT
  rw [if_pos ck] at ib
  rw [hb, xb_some, if_neg (by decide)] at C0
  rw [ib, xb_some, if_neg (by decide)] at R0
  by_cases c0 : w = 0
  · refine ⟨p a, h2, g2, C0 _ ?_, R0 _ ?_, kk⟩
    · rw [if_pos c0, xg_pos e13, xg_pos p0.2.1, xg_pos (by omega), Int.toNat_natCast, q1]
    · rw [if_pos c0, xg_pos (Q (j := 30) (k := 10) (by decide)), xg_pos (by omega), Int.toNat_natCast, w1]
  by_cases c1 : w = 1
  · refine ⟨g2 17 a, h2, g2, C0 _ ?_, R0 _ ?_, kk⟩
    · rw [if_neg c0, if_pos c1, xg_pos e13, xg_pos p0.2.2.1, xg_pos (by omega), Int.toNat_natCast, q3]
    · rw [if_neg c0, if_pos c1, xg_pos (Q (j := 42) (k := 17) (by decide)), xg_pos (by omega), Int.toNat_natCast]
  by_cases c2 : w = 2
  · have cl := clmC_l D hT ck.2 6 0 n rfl (by omega)
    have al := aloR_l D hT ck.2 S 0 m (by omega) (by omega)
    rw [show ((0 : Nat) : Int) = 0 from rfl, show acB (clF t p a S g2) 0 = 0 from rfl] at cl al
    refine ⟨acB (clF t p a S g2) S, h2, g2, C0 _ ?_, R0 _ ?_, kk⟩
    · rw [if_neg c0, if_neg c1, if_pos c2, xg_pos e13, e_X5_claimable, hearC_e D hT (by omega) ck.2, xb_some, cl, xb_some, acB_6 (fun i hi => by
        cases q : clF t p a S g2 i with
        | false => rfl
        | true => exact absurd (clF_t.mp q).1.1 (by omega)) S6]
    · rw [if_neg c0, if_neg c1, if_pos c2, e_X12_aloneOf, al, xb_some]
  by_cases c3 : w = 3
  · have cl := hldC_l (a := a) D 6 0 n rfl (by omega)
    have al := hldR_l (a := a) D S 0 m (by omega) (by omega)
    rw [show ((0 : Nat) : Int) = 0 from rfl, show acB (hlF a S g2) 0 = 0 from rfl] at cl al
    rw [hz] at cl
    refine ⟨acB (hlF a S g2) S, h2, g2, C0 _ ?_, R0 _ ?_, kk⟩
    · rw [if_neg c0, if_neg c1, if_neg c2, if_pos c3, xg_pos e13, xg_pos p0.1, e_X7_heldBy, cl, xb_some, acB_6 (fun i hi => by
        cases q : hlF a S g2 i with
        | false => rfl
        | true => exact absurd (hlF_t.mp q).1.1 (by omega)) S6]
    · rw [if_neg c0, if_neg c1, if_neg c2, if_pos c3, e_X12_holdsOf, al, xb_some]
  by_cases c4 : w = 4
  · refine ⟨g2 18 a, h2, g2, C0 _ ?_, R0 _ ?_, kk⟩
    · rw [if_neg c0, if_neg c1, if_neg c2, if_neg c3, if_pos c4, xg_pos e13, xg_pos p0.2.2.2.1, xg_pos (by omega), Int.toNat_natCast, q5]
    · rw [if_neg c0, if_neg c1, if_neg c2, if_neg c3, if_pos c4, xg_pos (Q (j := 43) (k := 18) (by decide)), xg_pos (by omega), Int.toNat_natCast]
  · refine ⟨-2, h2, g2, C0 _ ?_, R0 _ ?_, kk⟩
    · rw [if_neg c0, if_neg c1, if_neg c2, if_neg c3, if_neg c4]
    · rw [if_neg c0, if_neg c1, if_neg c2, if_neg c3, if_neg c4]
/-! claimed, shares -/
/-- the end of a day, and the class behind its deed k -/
def deR (k : Nat) (h g h2 g2 : yH) : Prop := ∃ (e s dd : Nat) (t d : Nat → Int) (u : Nat → Int), dG s dd t d u g2 ∧ (k : Int) < d 0 ∧ k < 30 ∧ (h2 130 1 = (e : Int) ∧ h2 e 1 = (e : Int) + 1 ∧ h2 (e + 1) k = d (1 + 4 * k)) ∧ rcR 0 d k h2 g2
theorem deedD {m n : Nat} {x y k : Int} {h g : yH} (hn : 300 ≤ n) (hm : 300 ≤ m) (R : RR True h g) (hW : WH g) (hp : cPr h) (h13 : h 1 3 = 130) (hL : lnI h) (hl : h 4 1 ≤ 600) (hq : rQ g) (h4 : ∀ j, j < 12 → 0 ≤ g 4 j ∧ g 4 j ≤ 2) (hk : 0 ≤ k) :
    ∃ v w h2 g2, f_X11_runToState n [1, x, y, k + 1] h = some (v, h2) ∧ f_X12_layDay m [35, x, y] (zup g 35 0 0) = some (w, g2) ∧ h2 1 3 = 130 ∧ dyK h g h2 g2 ∧ (0 ≤ g2 35 34 ∧ g2 35 34 ≤ 30 ∨ w = 0) ∧ ((w = 0 ∧ v = 0) ∨ (w = 1 ∧ v = 0 ∧ g2 35 34 ≤ k) ∨ (w = 1 ∧ v = 1 ∧ k < g2 35 34 ∧ deR k.toNat h g h2 g2)) := by
  have R1 := R.c0 hL hl
  have hq1 := c0_q hq
  have h41 := c0_4 h4
  have hW1 := hW.c0
  have hP := R.1
  have n0 := R1.n6 (j := 0) (by decide)
  have n1 := R1.n6 (j := 1) (by decide)
  have b0 := h41 0 (by decide)
  have b1 := h41 1 (by decide)
  have p3 : h 1 0 = 3 := hP.p (by decide)
  obtain ⟨F1, F2⟩ := findBoth (n := n) (x := x) (y := y) hP (by omega) (by omega)
  by_cases c : (0 ≤ x ∧ x < (zup g 35 0 0) 4 0) ∧ 0 ≤ y ∧ y < (zup g 35 0 0) 4 1
  rotate_left
  · refine ⟨0, 0, h, _, ?_, layN hq1 h41 c, h13, dyK.n R hL hl hq hp, Or.inr rfl, Or.inl ⟨rfl, rfl⟩⟩
    rw [e_X11_runToState, xg_pos p3, F1, xb_some, xg_pos p3, F2, xb_some]
    by_cases c1 : 0 ≤ x ∧ x < h 6 0
    · rw [if_pos c1, if_neg (show ¬ (20 + 10 * x < 0) by omega), if_neg (show ¬ (0 ≤ y ∧ y < h 6 1) by omega), if_pos (by decide)]
    · rw [if_neg c1, if_pos (by decide)]
  obtain ⟨s, rfl⟩ : ∃ s : Nat, x = (s : Int) := ⟨x.toNat, by omega⟩
  obtain ⟨dd, rfl⟩ : ∃ dd : Nat, y = (dd : Int) := ⟨y.toNat, by omega⟩
  obtain ⟨t, d, hT, C, ht, hD⟩ := dayIn (s := s) (dd := dd) R1 hW1 hp (by omega) c.1.2 (by omega) c.2.2
  obtain ⟨gB, B1, B2, B3⟩ := lay2 (m := m) (s := s) (dd := dd) (t := t) (d := d) (by omega) hq1 h41 c.1.2 (by omega) c.2.2 ht hD hT
  obtain ⟨h0, g0, f1, f2, D0, z34, z50, fc, fk⟩ := begin2 (n := n) (m := m) (by omega) (by omega) hT C B1
  have d30 := hT.2.2.1
  have hd0 : h (40 + 10 * dd) 0 = d 0 := C.2.2.2.2.1.1
  have k0 : h0 130 1 = ((40 + 10 * dd : Nat) : Int) := D0.1.2.2.2.1
  have kd : h0 (40 + 10 * dd) 0 = d 0 := D0.1.2.2.2.2.2.2.1.1
  have h013 : h0 1 3 = 130 := by rw [fc _ _ (by omega)]; exact h13
  have pre : ∀ r : yO, (if h (40 + 10 * dd) 0 < k + 1 then (some (0, h)) else (xg (h 1 3 = 130) (xg (0 ≤ ((20 + 10 * s : Nat) : Int)) (xg (0 ≤ ((40 + 10 * dd : Nat) : Int)) (xb (f_X5_begin n [130, ((20 + 10 * s : Nat) : Int), ((40 + 10 * dd : Nat) : Int), 0, 0] h) (fun _ h3 => xg (h3 1 3 = 130) (xb (f_X5_go n [130, k + 1] h3) (fun _ h4 => xg (h4 1 3 = 130) (if (h4 130 6) = k + 1 then (some (1, h4)) else (some (0, h4)))))))))) : yO) = r → f_X11_runToState n [1, (s : Int), (dd : Int), k + 1] h = r := by
    intro r er
    rw [e_X11_runToState, xg_pos p3, F1, xb_some, xg_pos p3, F2, xb_some, if_pos (show 0 ≤ (s : Int) ∧ (s : Int) < h 6 0 by omega), if_pos (show 0 ≤ (dd : Int) ∧ (dd : Int) < h 6 1 by omega), show 20 + 10 * (s : Int) = ((20 + 10 * s : Nat) : Int) by omega, show 40 + 10 * (dd : Int) = ((40 + 10 * dd : Nat) : Int) by omega, if_neg (by omega), if_neg (by omega), if_neg (by omega), xg_pos (show 0 ≤ ((40 + 10 * dd : Nat) : Int) by omega), Int.toNat_natCast]
    exact er
  have keep : ∀ {h2 g2 : yH}, cPr h2 → frC h h2 → frZ (zup g 35 0 0) g2 → rQ g2 → dyK h g h2 g2 := fun a1 a2 a3 a4 => ⟨R1.z hL hl a2 a3 a4, a1, a2, fun a j w1 w2 => (a3 a j (by omega)).trans (zup_ne (by omega))⟩
  by_cases cd : d 0 < k + 1
  · obtain ⟨k2, hE, gE, sm⟩ := sim2 (x1 := 30) hT (d 0).toNat 0 (d 0).toNat n m _ 0 0 _ h0 g0 (by omega) (by omega) (by omega) (by omega) (by omega) (by omega) D0 z34
    have go := sm.go (by omega) (by omega)
    rw [show (((d 0).toNat : Nat) : Int) = d 0 by omega] at go
    obtain ⟨⟨y1, y2⟩, ⟨S2, p2, y3⟩, ⟨y4, y5⟩, y6, y7, -⟩ := sm
    refine ⟨0, 1, h, gE, pre _ ?_, B3 _ ?_, h13, keep hp frC.r (B2.t (fk.z.t y7.z)) y3.2.1.1.1.2.2.2, Or.inl (by rw [y4]; omega), Or.inr (Or.inl ⟨rfl, rfl, by rw [y4]; omega⟩)⟩
    · rw [hd0, if_pos cd]
    · rw [e_X12_play, f2, xb_some, go.2, xb_some]
  · obtain ⟨k2, hE, gE, kZ, hZ, gZ, sm, sz, i1, i2⟩ := core2 (n := n) (m := m) (D := (d 0).toNat) (Z := k.toNat + 1) (x1 := k + 1) hT (by omega) (by omega) D0 z34 (by omega) (by omega)
    have go := sm.go (by omega) (by omega)
    have gz := sz.go (by omega) (by omega)
    rw [show (((d 0).toNat : Nat) : Int) = d 0 by omega] at go
    rw [show ((k.toNat + 1 : Nat) : Int) = k + 1 by omega] at gz
    obtain ⟨⟨y1, y2⟩, ⟨S2, p2, y3⟩, ⟨y4, y5⟩, y6, y7, -⟩ := sm
    obtain ⟨⟨u1, u2⟩, ⟨S3, p3', u3⟩, ⟨u4, u5⟩, u6, u7, u8, -⟩ := sz
    have hz6 : hZ 130 6 = (kZ : Int) := u3.2.2.1.1.trans u4
    have eL : f_X12_layDay m [35, (s : Int), (dd : Int)] (zup g 35 0 0) = some (1, gE) := B3 _ (by rw [e_X12_play, f2, xb_some, go.2, xb_some])
    have eG : f_X5_go n [130, k + 1] h0 = some (0, hZ) := by
      rw [e_X5_go, k0, xg_pos (by omega), Int.toNat_natCast, kd, show min (k + 1) (d 0) = k + 1 by omega]
      exact gz.1
    have hZ13 : hZ 1 3 = 130 := by rw [u6 _ _ (by omega)]; exact h013
    rw [hd0, if_neg cd, xg_pos h13, xg_pos (by omega), xg_pos (by omega), f1, xb_some, xg_pos h013, eG, xb_some, xg_pos hZ13, hz6] at pre
    have kp := keep u3.1.2.1 (fc.t u6) (B2.t (fk.z.t y7.z)) y3.2.1.1.1.2.2.2
    by_cases ck : kZ = k.toNat + 1
    · refine ⟨1, 1, hZ, gE, pre _ (by rw [if_pos (by omega)]), eL, hZ13, kp, Or.inl (by rw [y4]; omega), Or.inr (Or.inr ⟨rfl, rfl, by rw [y4]; have := i1.mp ck; omega, ?_⟩)⟩
      have rr := u8 ck (by omega)
      rw [show k.toNat + 1 - 1 = k.toNat by omega] at rr
      have q9 := i2 ck
      refine ⟨40 + 10 * dd, s, dd, t, d, _, y3.2.1, by omega, by omega, ⟨u3.1.2.2.2.1, u3.1.2.2.2.2.2.2.2.1, (u3.1.2.2.2.2.2.2.1.2 k.toNat (by omega)).1⟩, ?_⟩
      unfold rcR at rr ⊢
      rw [q9 21 k.toNat (by omega) (by omega) (by omega), q9 22 k.toNat (by omega) (by omega) (by omega), q9 23 k.toNat (by omega) (by omega) (by omega), q9 24 k.toNat (by omega) (by omega) (by omega), q9 25 k.toNat (by omega) (by omega) (by omega)]
      exact rr
    · refine ⟨0, 1, hZ, gE, pre _ (by rw [if_neg (by omega)]), eL, hZ13, kp, Or.inl (by rw [y4]; omega), Or.inr (Or.inl ⟨rfl, rfl, ?_⟩)⟩
      have i3 : ¬ k.toNat + 1 ≤ k2 := fun w => ck (i1.mpr w)
      rw [y4]
      omega
end
