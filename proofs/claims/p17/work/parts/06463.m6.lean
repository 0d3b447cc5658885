section
/-! text: the same answer, the same contents -/
theorem txK_c {a b : Nat → Int} {sort at_ : Int} (e : ∀ j, j < 3 → a j = b j) : txK a sort at_ = txK b sort at_ := by
  unfold txK
  by_cases h : 0 ≤ sort ∧ sort ≤ 2
  · rw [if_pos h, if_pos h, e _ (by omega)]
  · rw [if_neg h, if_neg h]
theorem txK_le {m : Nat → Int} {sort at_ : Int} (hk : txK m sort at_ ≠ -2) : txK m sort at_ ≤ m sort.toNat := by
  unfold txK at hk ⊢
  by_cases h1 : 0 ≤ sort ∧ sort ≤ 2
  · rw [if_pos h1] at hk ⊢
    by_cases h2 : at_ = -1
    · rw [if_pos h2] at hk ⊢
      by_cases h3 : m sort.toNat = 2
      · rw [if_pos h3] at hk
        exact absurd rfl hk
      · rw [if_neg h3]
        omega
    · rw [if_neg h2] at hk ⊢
      by_cases h3 : 0 ≤ at_ ∧ at_ < m sort.toNat
      · rw [if_pos h3]
        omega
      · rw [if_neg h3] at hk
        exact absurd rfl hk
  · rw [if_neg h1] at hk
    exact absurd rfl hk
/-- where the contents stay -/
theorem RB.tx {F : Prop} {h h2 g g2 : yH} (R : RB F 0 0 h g) (l1 : h2 4 1 = 0) (l2 : g2 1 0 = 0) (f1 : h2 3 5 = g2 2 0) (f2 : h2 3 6 = g2 3 0) (hc : ∀ a j, 6 ≤ a ∧ a ≤ 79 → h2 a j = h a j) (gc : ∀ a j, 4 ≤ a ∧ a ≤ 7 → g2 a j = g a j) : RB F 0 0 h2 g2 := by
  obtain ⟨r1, r2, r3, r4, r5, r6, r7, r8⟩ := R
  refine ⟨by rw [show h2 (0 + 4) 1 = 0 from l1, l2], fun i hi => ?_, fun j hj => ?_, f1, f2, fun i hi => ?_, fun i hi => ?_, fun i hi => ?_⟩
  · rw [show h2 (0 + 4) 1 = 0 from l1] at hi
    omega
  · rw [hc _ _ (by omega), gc _ _ (by omega)]
    exact r3 j hj
  · obtain ⟨t, a1, a2, a3⟩ := r6 i hi
    exact ⟨t, fun f => (a1 f).at (fun a j w1 w2 => hc a j (by omega)), fun j hj => by rw [gc _ _ (by omega)]; exact a2 j hj, fun w => a3 (by rw [gc _ _ (by omega)] at w; exact w)⟩
  · obtain ⟨t, a1, a2, a3⟩ := r7 i hi
    exact ⟨t, a1.at (fun a j w1 w2 => hc a j (by omega)), fun j hj => by rw [gc _ _ (by omega)]; exact a2 j hj, fun w => a3 (by rw [gc _ _ (by omega)] at w; exact w)⟩
  · obtain ⟨t, a1, a2, a3⟩ := r8 i hi
    exact ⟨t, a1.at (fun a j w1 w2 => hc a j (by omega)), fun j hj => by rw [gc _ _ (by omega)]; exact a2 j hj, fun w => a3 (by rw [gc _ _ (by omega)] at w; exact w)⟩
/-- where a text is kept -/
theorem RB.kp {F : Prop} {of k : Nat} {t : Nat → Int} {h h2 g g2 : yH} (R : RB F 0 0 h g) (hof : of ≤ 2) (hk : k < 2) (hkm : (k : Int) ≤ g 4 of) (l1 : h2 4 1 = 0) (l2 : g2 1 0 = 0) (f1 : h2 3 5 = g2 2 0) (f2 : h2 3 6 = g2 3 0) (hW : tWf of t) (hO : cO of k t h2) (h6 : h2 6 of = max (h 6 of) ((k : Int) + 1))
    (hc : ∀ a j, 6 ≤ a ∧ a ≤ 79 → ¬ (a = 6 ∧ j = of) → ¬ (20 + 20 * of + 10 * k ≤ a ∧ a ≤ 27 + 20 * of + 10 * k) → h2 a j = h a j) (gc : ∀ a j, 4 ≤ a ∧ a ≤ 7 → g2 a j = txS of k t g a j) : RB F 0 0 h2 g2 := by
  obtain ⟨r1, r2, r3, r4, r5, r6, r7, r8⟩ := R
  have e6 : h 6 of = g 4 of := by
    have := r3 of (by omega)
    rw [show 0 + 6 = 6 from rfl, show 3 * 0 + of = of by omega] at this
    exact this
  have g4 : ∀ j, g2 4 j = if j = of then max (g 4 of) ((k : Int) + 1) else g 4 j := fun j => by
    rw [gc 4 j (by omega)]
    unfold txS
    by_cases w : j = of
    · rw [if_pos ⟨rfl, w⟩, if_pos w]
      by_cases w2 : g 4 of = (k : Int)
      · rw [if_pos w2]
        omega
      · rw [if_neg w2]
        omega
    · rw [if_neg (by omega), if_neg (by omega), if_neg (by omega), if_neg (by omega), if_neg w]
  refine ⟨by rw [show h2 (0 + 4) 1 = 0 from l1, l2], fun i hi => ?_, fun j hj => ?_, f1, f2, fun i hi => ?_, fun i hi => ?_, fun i hi => ?_⟩
  · rw [show h2 (0 + 4) 1 = 0 from l1] at hi
    omega
  · rw [show 3 * 0 + j = j by omega, show 0 + 6 = 6 from rfl, g4]
    by_cases w : j = of
    · rw [if_pos w, w, h6, e6]
    · rw [if_neg w, hc 6 j (by omega) (by omega) (by omega)]
      have := r3 j hj
      rw [show 0 + 6 = 6 from rfl, show 3 * 0 + j = j by omega] at this
      exact this
  · by_cases w : of = 0 ∧ i = k
    · obtain ⟨rfl, rfl⟩ := w
      refine ⟨t, fun _ => ?_, fun j hj => ?_, fun _ => hW.1 rfl⟩
      · have := hO.1 rfl
        rw [show 0 + 20 + 10 * i = 20 + 10 * i by omega]
        exact this
      · rw [gc 5 _ (by omega)]
        unfold txS
        rw [if_neg (by omega), if_pos (by omega), show 100 * 0 + 50 * i + j - 50 * i = j by omega]
    · obtain ⟨t', a1, a2, a3⟩ := r6 i hi
      refine ⟨t', fun f => (a1 f).at (fun a j w1 w2 => hc a j (by omega) (by omega) (by omega)), fun j hj => ?_, fun q => a3 ?_⟩
      · rw [gc 5 _ (by omega)]
        unfold txS
        rw [if_neg (by omega), if_neg (by omega), if_neg (by omega), if_neg (by omega)]
        exact a2 j hj
      · rw [show 3 * 0 = 0 from rfl] at q ⊢
        rw [g4] at q
        by_cases w3 : 0 = of
        · rw [if_pos w3, ← w3] at q
          rw [← w3] at hkm
          omega
        · rw [if_neg w3] at q
          exact q
  · by_cases w : of = 1 ∧ i = k
    · obtain ⟨rfl, rfl⟩ := w
      refine ⟨t, ?_, fun j hj => ?_, fun _ => hW.2.1 rfl⟩
      · have := hO.2.1 rfl
        rw [show 0 + 40 + 10 * i = 40 + 10 * i by omega]
        exact this
      · rw [gc 6 _ (by omega)]
        unfold txS
        rw [if_neg (by omega), if_neg (by omega), if_pos (by omega), show 242 * 0 + 121 * i + j - 121 * i = j by omega]
    · obtain ⟨t', a1, a2, a3⟩ := r7 i hi
      refine ⟨t', a1.at (fun a j w1 w2 => hc a j (by omega) (by omega) (by omega)), fun j hj => ?_, fun q => a3 ?_⟩
      · rw [gc 6 _ (by omega)]
        unfold txS
        rw [if_neg (by omega), if_neg (by omega), if_neg (by omega), if_neg (by omega)]
        exact a2 j hj
      · rw [show 3 * 0 + 1 = 1 from rfl] at q ⊢
        rw [g4] at q
        by_cases w3 : 1 = of
        · rw [if_pos w3, ← w3] at q
          rw [← w3] at hkm
          omega
        · rw [if_neg w3] at q
          exact q
  · by_cases w : of = 2 ∧ i = k
    · obtain ⟨rfl, rfl⟩ := w
      refine ⟨t, ?_, fun j hj => ?_, fun _ => hW.2.2 rfl⟩
      · have := hO.2.2 rfl
        rw [show 0 + 60 + 10 * i = 60 + 10 * i by omega]
        exact this
      · rw [gc 7 _ (by omega)]
        unfold txS
        rw [if_neg (by omega), if_neg (by omega), if_neg (by omega), if_pos (by omega), show 104 * 0 + 52 * i + j - 52 * i = j by omega]
    · obtain ⟨t', a1, a2, a3⟩ := r8 i hi
      refine ⟨t', a1.at (fun a j w1 w2 => hc a j (by omega) (by omega) (by omega)), fun j hj => ?_, fun q => a3 ?_⟩
      · rw [gc 7 _ (by omega)]
        unfold txS
        rw [if_neg (by omega), if_neg (by omega), if_neg (by omega), if_neg (by omega)]
        exact a2 j hj
      · rw [show 3 * 0 + 2 = 2 from rfl] at q ⊢
        rw [g4] at q
        by_cases w3 : 2 = of
        · rw [if_pos w3, ← w3] at q
          rw [← w3] at hkm
          omega
        · rw [if_neg w3] at q
          exact q
theorem RR_text {F : Prop} {m n : Nat} {sort at_ : Int} {h g : yH} (hn : 2800 ≤ n ∧ 2600 ≤ m) (R : RR F h g) (hL : lnI h) (hm : 0 ≤ h 4 1 ∧ h 4 1 ≤ 600) (hk : ∀ j, j < 12 → 0 ≤ g 4 j ∧ g 4 j ≤ 2) : ∃ v h2 g2, f_X11_text n [1, sort, at_] h = some (v, h2) ∧ f_X12_text m [35, sort, at_] g = some (v, g2) ∧ RR F h2 g2 := by
  obtain ⟨hP, gP, R0, RI0⟩ := R
  have e0 : h 4 1 = g 1 0 := R0.1
  have e6 : ∀ j, j < 3 → h 6 j = g 4 j := fun j hj => by
    have := R0.2.2.1 j hj
    rw [show 0 + 6 = 6 from rfl, show 3 * 0 + j = j by omega] at this
    exact this
  obtain ⟨t0, w, g2, ht, e2, q⟩ := text_e (n := m) (sort := sort) (at_ := at_) hn.2 gP (by rw [← e0]; exact hm) hk
  have hc : cC (uR g) (g 1 0).toNat h := by
    refine ⟨by rw [e0]; omega, by omega, fun i hi => ?_, hP⟩
    have := R0.2.1 i (by rw [show h (0 + 4) 1 = h 4 1 from rfl]; omega)
    rw [show 600 * 0 + i = i by omega, show h (0 + 5) i = h 5 i from rfl] at this
    unfold uR
    rw [this]
  obtain ⟨v, h2, e1, r⟩ := textC_e (n := n) (sort := sort) (at_ := at_) hn.1 hc (fun j hj => by rw [e6 j hj]; exact hk j (by omega)) ht
  generalize pRd (uR g) (g 1 0).toNat sort.toNat 700 0 (0, -1) t0 (-1) (-1) = S at q r
  obtain ⟨P2, l41, fr, r⟩ := r
  obtain ⟨Q2, s10, s1, s2, s3, s0, s34, q⟩ := q
  have eK : txK (h 6) sort at_ = txK (g 4) sort at_ := txK_c e6
  rw [eK] at r
  have fI : ∀ a j, 1000 ≤ a → h2 a j = h a j := fun a j w => fr a j (by omega) (by omega) (by omega)
  have f2 : ∀ j, h2 2 j = h 2 j := fun j => fr 2 j (by omega) (by omega) (by omega)
  have s123 : ∀ a j, a = 1 ∨ a = 2 ∨ a = 3 → j ≠ 0 → g2 a j = g a j := fun a j w1 w2 => by
    rcases w1 with rfl | rfl | rfl
    · exact s1 j w2
    · exact s2 j w2
    · exact s3 j w2
  rcases r with ⟨c0, c1, c2, c3, c4⟩ | ⟨c0, c2, c3, r⟩
  · rcases q with ⟨-, d1, d2, d3, d4⟩ | ⟨d0, -⟩
    · rw [c1] at e1
      rw [d1] at e2
      refine ⟨_, _, _, e1, e2, P2, Q2, R0.tx l41 s10 (by rw [c2, d2]) (by rw [c3, d3]) (fun a j w => c4 a j w) d4, RI0.fr hL fI f2 s34 (fun j _ => s0 j) s123 (fun j _ => d4 4 j (by omega)) (fun j _ => d4 5 j (by omega)) (fun j _ => d4 6 j (by omega)) (fun j _ => d4 7 j (by omega))⟩
    · exact absurd c0 d0
  · rcases q with ⟨d0, -⟩ | ⟨-, d2, d3, q⟩
    · exact absurd d0 c0
    · have k2 := txK_b (fun j hj => hk j (by omega)) c0
      have kl := txK_le c0
      rcases r with ⟨u0, u1, u2⟩ | ⟨u0, u1, u2, u3, u4, u5⟩
      · rcases q with ⟨-, w1, w2⟩ | ⟨w0, -⟩
        · rw [u1] at e1
          rw [w1] at e2
          refine ⟨_, _, _, e1, e2, P2, Q2, R0.tx l41 s10 (by rw [c2, d2]) (by rw [c3, d3]) (fun a j w => u2 a j w) w2, RI0.fr hL fI f2 s34 (fun j _ => s0 j) s123 (fun j _ => w2 4 j (by omega)) (fun j _ => w2 5 j (by omega)) (fun j _ => w2 6 j (by omega)) (fun j _ => w2 7 j (by omega))⟩
        · exact absurd w0 u0
      · rcases q with ⟨w0, -⟩ | ⟨-, w1, w2, w3⟩
        · exact absurd u0 w0
        · have ev : v = w := u1.trans w1.symm
          rw [ev] at e1 u3 u4 u5
          rw [← w1] at k2 kl w3
          obtain ⟨of, rfl⟩ : ∃ of : Nat, sort = (of : Int) := ⟨sort.toNat, by omega⟩
          obtain ⟨k, rfl⟩ : ∃ k : Nat, w = (k : Int) := ⟨w.toNat, by omega⟩
          simp only [Int.toNat_natCast] at u2 u3 u4 u5 w3 kl
          have tx : ∀ a j, 4 ≤ a ∧ a ≤ 7 → (a = 4 ∧ 3 ≤ j) ∨ (a = 5 ∧ 100 ≤ j) ∨ (a = 6 ∧ 242 ≤ j) ∨ (a = 7 ∧ 104 ≤ j) → g2 a j = g a j := fun a j x1 x2 => by
            rw [w3 a j x1]
            unfold txS
            rw [if_neg (by omega), if_neg (by omega), if_neg (by omega), if_neg (by omega)]
          refine ⟨_, _, _, e1, e2, P2, Q2, R0.kp (of := of) (k := k) (t := S.2) (by omega) (by omega) kl l41 s10 (by rw [c2, d2]) (by rw [c3, d3]) u2 u3 u4 u5 w3, RI0.fr hL fI f2 s34 (fun j _ => s0 j) s123 (fun j x => tx 4 j (by omega) (by omega)) (fun j x => tx 5 j (by omega) (by omega)) (fun j x => tx 6 j (by omega) (by omega)) (fun j x => tx 7 j (by omega) (by omega))⟩
end
section
/-! images: made and gone back to -/
theorem RR.c0 {F : Prop} {h g : yH} (R : RR F h g) (hL : lnI h) (hm : h 4 1 ≤ 600) : RR F h (zup g 35 0 0) := by
  obtain ⟨hP, gP, R0, RI0⟩ := R
  exact ⟨hP, gP.fr (fun j hj => by rw [zup_ne (by omega)]), R0.fr (fun _ _ _ _ => rfl) (fun j _ _ => by rw [zup_ne (by omega)]) ⟨by rw [zup_ne (by omega)], by rw [zup_ne (by omega)], by rw [zup_ne (by omega)]⟩ (fun j _ _ => by rw [zup_ne (by omega)]) (fun j _ _ => by rw [zup_ne (by omega)]) (fun j _ _ => by rw [zup_ne (by omega)]) (fun j _ _ => by rw [zup_ne (by omega)]) hm, RI0.fr hL (fun _ _ _ => rfl) (fun _ => rfl) (fun j => by rw [zup_ne (by omega)]) (fun j _ => by rw [zup_ne (by omega)]) (fun a j _ _ => by rw [zup_ne (by omega)]) (fun j _ => by rw [zup_ne (by omega)]) (fun j _ => by rw [zup_ne (by omega)]) (fun j _ => by rw [zup_ne (by omega)]) (fun j _ => by rw [zup_ne (by omega)])⟩
theorem cPL_b : ∀ p ∈ cPL, p.1 ≤ 200 := by decide +kernel
theorem cPL_t : ∀ p ∈ cPL, (p.1 < 3 ∨ 80 ≤ p.1) ∨ ∃ q ∈ cPLb, q.1 = p.1 ∧ q.2.1 = p.2.1 ∧ (q.2.2 : Int) = p.2.2 := by decide +kernel
/-- the reference's block stays -/
theorem RB.ra {F : Prop} {B κ f t : Nat} {h h2 g g2 : yH} (R : RB F B κ h g) (hκ : κ ≠ t) (hc : ∀ a j, B + 3 ≤ a → a ≤ B + 79 → h2 a j = h a j) (hr : raR f t g g2) (hl : h (B + 4) 1 ≤ 600) : RB F B κ h2 g2 := by
  obtain ⟨-, -, -, -, -, -, -, -, s0, s1, s4, s5, s6, s7, -⟩ := hr
  exact R.fr hc (fun j _ _ => s0 j (by omega)) ⟨s1 1 κ (by omega) hκ, s1 2 κ (by omega) hκ, s1 3 κ (by omega) hκ⟩ (fun j _ _ => s4 j (by omega)) (fun j _ _ => s5 j (by omega)) (fun j _ _ => s6 j (by omega)) (fun j _ _ => s7 j (by omega)) hl
theorem RB.k34 {F : Prop} {B κ k : Nat} {x : Int} {h g : yH} (R : RB F B κ h g) (hl : h (B + 4) 1 ≤ 600) : RB F B κ h (zup g 34 k x) := R.fr (fun _ _ _ _ => rfl) (fun j _ _ => by rw [zup_ne (by omega)]) ⟨by rw [zup_ne (by omega)], by rw [zup_ne (by omega)], by rw [zup_ne (by omega)]⟩ (fun j _ _ => by rw [zup_ne (by omega)]) (fun j _ _ => by rw [zup_ne (by omega)]) (fun j _ _ => by rw [zup_ne (by omega)]) (fun j _ _ => by rw [zup_ne (by omega)]) hl
/-- what holds where image k is there as a cell, whatever it tells -/
def RX (F : Prop) (k : Nat) (h g : yH) : Prop := cP h ∧ rP g ∧ RB F 0 0 h g ∧ (∀ i, i < 3 → i ≠ k → (g 34 i = 0 ∧ h 2 i = -1) ∨ (g 34 i = 1 ∧ h 2 i = ((1000 * (i + 1) + 3 : Nat) : Int) ∧ cPb (1000 * (i + 1)) h ∧ RB F (1000 * (i + 1)) (i + 1) h g)) ∧ h 2 k = ((1000 * (k + 1) + 3 : Nat) : Int) ∧ cPb (1000 * (k + 1)) h
theorem RR.x {F : Prop} {k : Nat} {h g : yH} (R : RR F h g) (hk : k < 3) (h2 : h 2 k ≠ -1) : RX F k h g := by
  obtain ⟨a, b, c, d⟩ := R
  rcases d k hk with q | q
  · exact absurd q.2 h2
  · exact ⟨a, b, c, fun i hi _ => d i hi, q.2.1, q.2.2.1⟩
theorem RX_image {F : Prop} {k m : Nat} {h h2 g : yH} (hn : 1000 ≤ m) (hk : k < 3) (R : RX F k h g) (hL : lnI h) (hm : h 4 1 ≤ 600) (gb : rBd g) (p63 : g 35 63 = 34) (hc : tcR (1000 * (k + 1)) 0 h h2) : ∃ g2, f_X12_image m [35, (k : Int)] g = some (1, g2) ∧ RR F h2 g2 := by
  obtain ⟨hP, gP, R0, RI0, hk2, -⟩ := R
  have gP1 : rP (zup g 35 0 0) := gP.fr (fun j hj => by rw [zup_ne (by omega)])
  have gb1 : rBd (zup g 35 0 0) := fun a ha j hj => by
    rw [zup_ne (by omega)]
    exact gb a ha j hj
  have R1 : RB F 0 0 h (zup g 35 0 0) := R0.fr (fun _ _ _ _ => rfl) (fun j _ _ => by rw [zup_ne (by omega)]) ⟨by rw [zup_ne (by omega)], by rw [zup_ne (by omega)], by rw [zup_ne (by omega)]⟩ (fun j _ _ => by rw [zup_ne (by omega)]) (fun j _ _ => by rw [zup_ne (by omega)]) (fun j _ _ => by rw [zup_ne (by omega)]) (fun j _ _ => by rw [zup_ne (by omega)]) hm
  have I1 : ∀ i, i < 3 → i ≠ k → ((zup g 35 0 0) 34 i = 0 ∧ h 2 i = -1) ∨ ((zup g 35 0 0) 34 i = 1 ∧ h 2 i = ((1000 * (i + 1) + 3 : Nat) : Int) ∧ cPb (1000 * (i + 1)) h ∧ RB F (1000 * (i + 1)) (i + 1) h (zup g 35 0 0)) := fun i hi hik => by
    rw [zup_ne (by omega)]
    rcases RI0 i hi hik with q | ⟨q1, q2, q3, q4⟩
    · exact Or.inl q
    · refine Or.inr ⟨q1, q2, q3, q4.fr (fun _ _ _ _ => rfl) (fun j _ _ => by rw [zup_ne (by omega)]) ⟨by rw [zup_ne (by omega)], by rw [zup_ne (by omega)], by rw [zup_ne (by omega)]⟩ (fun j _ _ => by rw [zup_ne (by omega)]) (fun j _ _ => by rw [zup_ne (by omega)]) (fun j _ _ => by rw [zup_ne (by omega)]) (fun j _ _ => by rw [zup_ne (by omega)]) ?_⟩
      rcases hL i hi with q | q
      · exact q
      · rw [q] at q2
        omega
  have p1 : (zup g 35 0 0) 35 63 = 34 := by rw [zup_ne (by omega)]; exact p63
  have e0 : f_X12_image m [35, (k : Int)] g = _ := e_X12_image
  rw [in_t (by omega), xb_some, if_neg (by decide), xg_pos (by omega)] at e0
  generalize zup g 35 0 0 = g1 at *
  obtain ⟨v, g2, e1, hr⟩ := call_e (n := m) (f := 0) (t := k + 1) hn gP1 gb1 (by omega) (by omega) (by omega)
  rw [show ((0 : Nat) : Int) = 0 from rfl, show (((k + 1 : Nat)) : Int) = (k : Int) + 1 by omega] at e1
  have f8 := hr.2.2.2.2.2.2.2.2.2.2.2.2.2.2
  rw [e1, xb_some, xg_pos (by rw [f8 _ _ (by omega)]; exact p1), xg_pos (by omega), Int.toNat_natCast] at e0
  have hcf := hc.2.2.2.2.2.2.2.2.2
  have Bcp : RB F (1000 * (k + 1)) (k + 1) h2 g2 := R1.cp hm hc hr
  have l2 : ∀ i, i < 3 → i ≠ k → h2 (1000 * (i + 1) + 4) 1 = h (1000 * (i + 1) + 4) 1 := fun i hi hik => hcf _ _ (by omega)
  refine ⟨_, e0, hP.fr (fun a j w => hcf _ _ ?_), gP1.fr (fun j hj => by rw [zup_ne (by omega), f8 _ _ (by omega)]), (R1.ra (by omega) (fun a j w1 w2 => hcf _ _ (by omega)) hr hm).k34 (by rw [hcf _ _ (by omega)]; exact hm), fun i hi => ?_⟩
  · obtain ⟨p, hp, e⟩ := List.any_eq_true.mp w
    have e1 : p.1 = a ∧ p.2.1 = j := by simpa using e
    have := cPL_b p hp
    omega
  · have h2i : h2 2 i = h 2 i := hcf _ _ (by omega)
    by_cases hik : i = k
    · subst hik
      refine Or.inr ⟨by rw [zup_at], by rw [h2i]; exact hk2, hc.2.2.2.2.2.2.2.2.1, Bcp.k34 ?_⟩
      rw [hc.1]
      exact hm
    · rw [zup_ne (by omega), f8 _ _ (by omega), h2i]
      rcases I1 i hi hik with q | ⟨q1, q2, q3, q4⟩
      · exact Or.inl q
      · have li : h (1000 * (i + 1) + 4) 1 ≤ 600 := by
          rcases hL i hi with q | q
          · exact q
          · rw [q] at q2
            omega
        exact Or.inr ⟨q1, q2, q3.fr (fun p hp => hcf _ _ (by have := cPLb_b p hp; omega)), (q4.ra (by omega) (fun a j w1 w2 => hcf _ _ (by omega)) hr li).k34 (by rw [l2 i hi hik]; exact li)⟩
theorem RR_imageN {F : Prop} {m : Nat} {x : Int} {h g : yH} (R : RR F h g) (hL : lnI h) (hm : h 4 1 ≤ 600) (hx : ¬ (0 ≤ x ∧ x < 3)) : f_X12_image m [35, x] g = some (0, zup g 35 0 0) ∧ RR F h (zup g 35 0 0) := by
  have e0 : f_X12_image m [35, x] g = _ := e_X12_image
  rw [in_f (by omega), xb_some, if_pos rfl] at e0
  exact ⟨e0, R.c0 hL hm⟩
theorem RR_againN {F : Prop} {m : Nat} {x : Int} {h g : yH} (R : RR F h g) (hL : lnI h) (hm : h 4 1 ≤ 600) (p63 : g 35 63 = 34) (hx : ¬ (0 ≤ x ∧ x < 3) ∨ h 2 x.toNat = -1) : f_X12_again m [35, x] g = some (0, zup g 35 0 0) ∧ RR F h (zup g 35 0 0) := by
  have e0 : f_X12_again m [35, x] g = _ := e_X12_again
  by_cases w : 0 ≤ x ∧ x < 3
  · have h2 : h 2 x.toNat = -1 := hx.resolve_left (fun q => q w)
    have z : g 34 x.toNat = 0 := by
      rcases R.2.2.2 x.toNat (by omega) with q | q
      · exact q.1
      · have := q.2.1
        omega
    rw [in_t (by omega), xb_some, if_neg (by decide), xg_pos (by rw [zup_ne (by omega)]; exact p63), xg_pos w, if_pos (by rw [zup_ne (by omega)]; exact z)] at e0
    exact ⟨e0, R.c0 hL hm⟩
  · rw [in_f (by omega), xb_some, if_pos rfl] at e0
    exact ⟨e0, R.c0 hL hm⟩
theorem RR_again {F : Prop} {k m : Nat} {h h2 g : yH} (hn : 1000 ≤ m) (hk : k < 3) (R : RR F h g) (h2k : h 2 k ≠ -1) (hL : lnI h) (hm : h 4 1 ≤ 600) (gb : rBd g) (p63 : g 35 63 = 34) (hc : tcR 0 (1000 * (k + 1)) h h2) : ∃ g2, f_X12_again m [35, (k : Int)] g = some (1, g2) ∧ RR F h2 g2 := by
  have R1 := R.c0 hL hm
  have gb1 : rBd (zup g 35 0 0) := fun a ha j hj => by
    rw [zup_ne (by omega)]
    exact gb a ha j hj
  have p1 : (zup g 35 0 0) 35 63 = 34 := by rw [zup_ne (by omega)]; exact p63
  have e0 : f_X12_again m [35, (k : Int)] g = _ := e_X12_again
  rw [in_t (by omega), xb_some, if_neg (by decide)] at e0
  generalize zup g 35 0 0 = g1 at *
  obtain ⟨hP, gP1, R0, RI0⟩ := R1
  obtain ⟨v, g2, e1, hr⟩ := call_e (n := m) (f := k + 1) (t := 0) hn gP1 gb1 (by omega) (by omega) (by omega)
  rw [show ((0 : Nat) : Int) = 0 from rfl, show (((k + 1 : Nat)) : Int) = (k : Int) + 1 by omega] at e1
  have f8 := hr.2.2.2.2.2.2.2.2.2.2.2.2.2.2
  have hcf := hc.2.2.2.2.2.2.2.2.2
  rcases RI0 k hk with q | ⟨q1, q2, q3, q4⟩
  · exact absurd q.2 h2k
  · rw [xg_pos p1, xg_pos (by omega), Int.toNat_natCast, if_neg (by rw [q1]; decide), xg_pos (by omega), e1, xb_some] at e0
    have lk : h (1000 * (k + 1) + 4) 1 ≤ 600 := by
      rcases hL k hk with q | q
      · exact q
      · exact absurd q h2k
    refine ⟨_, e0, fun p hp => ?_, gP1.fr (fun j hj => f8 _ _ (by omega)), q4.cp lk hc hr, fun i hi => ?_⟩
    · rcases cPL_t p hp with w | ⟨r, hr1, hr2, hr3, hr4⟩
      · rw [hcf _ _ (by omega)]
        exact hP p hp
      · have := hc.2.2.2.2.2.2.2.2.1 r hr1
        rw [Nat.zero_add, Nat.zero_add, hr2, hr3, hr4] at this
        exact this
    · rw [f8 _ _ (by omega), show h2 2 i = h 2 i from hcf _ _ (by omega)]
      rcases RI0 i hi with w | ⟨w1, w2, w3, w4⟩
      · exact Or.inl w
      · have li : h (1000 * (i + 1) + 4) 1 ≤ 600 := by
          rcases hL i hi with q | q
          · exact q
          · rw [q] at w2
            omega
        exact Or.inr ⟨w1, w2, w3.fr (fun p hp => hcf _ _ (by omega)), w4.ra (by omega) (fun a j u1 u2 => hcf _ _ (by omega)) hr li⟩
end
section
theorem zf_RX11_10 : zFok RX11 zTW vwCl (10, 11, 0, none) := ⟨RX11, TX11, 7, rfl, zx_11, by decide, zTi_2 234 (by decide +kernel) rfl, fun _ h => by cases h⟩
end
section
set_option maxRecDepth 100000 in
theorem zq_X11_again : tables_1_5[232]? = some (.code yX11_again cX11_again 2 (some .boolean)) := rfl
theorem zw_X11_again : zMV yX11_again cX11_again 2 (some .boolean) 1 := ⟨⟨zTi_1 1 (by decide +kernel) rfl, zTi_5 232 zq_X11_again rfl, ⟨by decide, by decide⟩, by decide +kernel⟩, zTi_5 230 (by decide +kernel) rfl, zTi_5 231 (by decide +kernel) rfl⟩
theorem zf_RX11_16 : zFok RX11 zTW vwCl (16, 11, 1, none) := ⟨RX11, TX11, 7, rfl, zx_11, by decide, zTi_2 235 (by decide +kernel) rfl, fun _ h => by cases h⟩
end
section
variable {η : zRn}
/-! Math.abs, negation, constants, longs -/
def yAbs (P : yP) : yP := fun loc st h => match st with
  | a :: st' => a.1 = 0 ∧ st'.length ≤ 4 ∧ -2147483648 < a.2 ∧ P loc ((0, if 0 ≤ a.2 then a.2 else -a.2) :: st') h
  | _ => False
def yNeg (P : yP) : yP := fun loc st h => match st with
  | a :: st' => a.1 = 0 ∧ -2147483648 < a.2 ∧ P loc ((0, -a.2) :: st') h
  | _ => False
def yland (x y : Int) : Int := (Int64.ofInt x &&& Int64.ofInt y).toInt
def yLand (P : yP) : yP := fun loc st h => match st with
  | b :: a :: st' => (a.1 = 1 ∧ b.1 = 1) ∧ P loc ((1, yland a.2 b.2) :: st') h
  | _ => False
def ylshr (x y : Int) : Int := (Int64.ofInt x >>> ((Int32.ofInt y).toInt64 &&& 63)).toInt
def yLshr (P : yP) : yP := fun loc st h => match st with
  | b :: a :: st' => (a.1 = 1 ∧ b.1 = 0) ∧ P loc ((1, ylshr a.2 b.2) :: st') h
  | _ => False
section YAB
variable {kds : List zKD} {D : va_G} {cl : List vw_C} {cy : Nat → ClassId} {L : List Nat} {Θ : Nat → Option Nat} {nL : Nat}
variable {p : Program} {l : Launch} {e : Env} {R : Room} {s : State} {m : MethodId} {args : Array Value} {below : List Frame} {meth : Method} {c : Code} {Q : State → Prop}
variable {cc : ByteArray} {pc : Nat} {tys : List (ClassId × FieldType)} {own : String} {TW : List Cond} {KP : zKPt} {tyf : (Nat → ClassId) → List (ClassId × FieldType)} {ret : Option FieldType} {fr lo : Nat} {Qr : yQt} {P : yP}
theorem yr_abs (Z : yCz η kds D cl cy L Θ nL p l e R s m args below meth c Q cc tys own TW KP tyf ret fr lo Qr) {idx : Nat} (hd : decode cc pc = .ok (.invokestatic idx, 3)) (h1 : Cond.methodLink own idx Lib.Math.abs.name ∈ TW) (h2 : Cond.static Lib.Math.abs.name ∈ TW) (h3 : Cond.initialized "java/lang/Math" ∈ TW) (h4 : Cond.code Lib.Math.abs.name Lib.Math.abs.code 1 (some .int) ∈ TW) (h5 : 1 ≤ fr) (h6 : 21 ≤ lo) (k : yGo η kds D cl cy L Θ nL p l e R s m args below meth c Q (pc + 3) (P)) : yGo η kds D cl cy L Θ nL p l e R s m args below meth c Q (pc) (yAbs P) := by
  intro loc st h H locs ls hp g
  unfold yAbs at hp
  split at hp
  · rename_i a st'
    obtain ⟨q1, q3, qb, q4⟩ := hp
    obtain ⟨⟨hexec, hb, hml, hts, hown, hKa, hTy, hnd⟩, -, -, -, -, ⟨hfr, hlo⟩, -⟩ := Z
    obtain ⟨x, ex, hx⟩ := y_int (η := η) (g.2.2.1 a List.mem_cons_self) q1
    have key : (if 0 ≤ x then x else 0 - x).toInt = if 0 ≤ a.2 then a.2 else -a.2 := by
      have z0 : (0 : Int32).toInt = 0 := rfl
      rw [← hx] at qb ⊢
      by_cases hlt : 0 ≤ x
      · have := Int32.le_iff_toInt_le.mp hlt
        rw [z0] at this
        rw [if_pos hlt, if_pos this]
      · have : ¬ 0 ≤ x.toInt := fun g => hlt (Int32.le_iff_toInt_le.mpr (by rw [z0]; exact g))
        rw [if_neg hlt, if_neg this, Int32.toInt_sub, z0]
        have h9 := z_hi x
        rw [Int.bmod_eq_of_le (by omega) (by omega)]
        omega
    have c8 := y_cat8 (η := η) (st := st')
    have w := yr_un (t := 0) g (by rw [← key]; exact y_i0 Θ _) q4 k
    rw [y_vi key] at w
    rw [List.map_cons, ex]
    exact va_mabs hexec hb (by rw [hml]; exact g.2.1.1.symm) hown (hts _ h1) (hts _ h2) (hts _ h3) (hts _ h4) (by omega) (by omega) (Nat.zero_le _) (Nat.zero_le _) hd w
  · exact hp.elim
theorem yr_neg (X : hCx D cl cy L p s m args c cc nL tys TW own) (hd : decode cc pc = .ok (.ineg, 1)) (k : yGo η kds D cl cy L Θ nL p l e R s m args below meth c Q (pc + 1) (P)) : yGo η kds D cl cy L Θ nL p l e R s m args below meth c Q (pc) (yNeg P) := by
  intro loc st h H locs ls hp g
  unfold yNeg at hp
  split at hp
  · rename_i a st'
    obtain ⟨q1, qb, q4⟩ := hp
    obtain ⟨x, ex, hx⟩ := y_int (η := η) (g.2.2.1 a List.mem_cons_self) q1
    have key : (-x).toInt = -a.2 := by
      have h9 := z_hi x
      have h8 := z_lo x
      rw [← hx] at qb ⊢
      rw [Int32.toInt_neg]
      exact Int.bmod_eq_of_le (by omega) (by omega)
    have w := yr_un (t := 0) g (by rw [← key]; exact y_i0 Θ _) q4 k
    rw [y_vi key] at w
    rw [List.map_cons, ex]
    exact lv_ineg X.1 X.2.1 hd w
  · exact hp.elim
theorem yr_ldc (X : hCx D cl cy L p s m args c cc nL tys TW own) {i : Nat} {n : Int} (hd : decode cc pc = .ok (.ldc i, 2)) (hc : Cond.constant own i (Int32.ofInt n) ∈ TW) (hn : -2147483648 ≤ n ∧ n ≤ 2147483647) (k : yGo η kds D cl cy L Θ nL p l e R s m args below meth c Q (pc + 2) (P)) : yGo η kds D cl cy L Θ nL p l e R s m args below meth c Q (pc) (yCst 0 n P) :=
  yr_cst (y_i hn.1 hn.2) (fun _ _ _ _ w => lv_ldc X.1 X.2.1 X.2.2.2.2.1 (X.2.2.2.1 _ hc) hd w) k
theorem yr_ldcw (X : hCx D cl cy L p s m args c cc nL tys TW own) {i : Nat} {n : Int} (hd : decode cc pc = .ok (.ldc_w i, 3)) (hc : Cond.constant own i (Int32.ofInt n) ∈ TW) (hn : -2147483648 ≤ n ∧ n ≤ 2147483647) (k : yGo η kds D cl cy L Θ nL p l e R s m args below meth c Q (pc + 3) (P)) : yGo η kds D cl cy L Θ nL p l e R s m args below meth c Q (pc) (yCst 0 n P) :=
  yr_cst (y_i hn.1 hn.2) (fun _ _ _ _ w => lv_ldcw X.1 X.2.1 X.2.2.2.2.1 (X.2.2.2.1 _ hc) hd w) k
theorem yr_land (X : hCx D cl cy L p s m args c cc nL tys TW own) (hd : decode cc pc = .ok (.land, 1)) (k : yGo η kds D cl cy L Θ nL p l e R s m args below meth c Q (pc + 1) (P)) : yGo η kds D cl cy L Θ nL p l e R s m args below meth c Q (pc) (yLand P) := by
  intro loc st h H locs ls hp g
  unfold yLand at hp
  split at hp
  · rename_i b a st'
    obtain ⟨⟨h1, h2⟩, h4⟩ := hp
    obtain ⟨x, ex, hx⟩ := y_long (η := η) (g.2.2.1 a (List.mem_cons_of_mem _ List.mem_cons_self)) h1
    obtain ⟨y, ey, hy⟩ := y_long (η := η) (g.2.2.1 b List.mem_cons_self) h2
    have es : (x &&& y).toInt = yland a.2 b.2 := by
      unfold yland
      rw [← hx, ← hy, z_ofi64, z_ofi64]
    have w := k loc ((1, yland a.2 b.2) :: st') h H locs ls h4 (yg_st g (fun q hq => by
      rcases List.mem_cons.mp hq with rfl | hq
      · rw [← es]; exact y_l0 Θ _
      · exact g.2.2.1 q (List.mem_cons_of_mem _ (List.mem_cons_of_mem _ hq))))
    rw [List.map_cons, y_vl es] at w
    rw [List.map_cons, List.map_cons, ex, ey]
    exact lv_land X.1 X.2.1 hd w
  · exact hp.elim
theorem yr_lshr (X : hCx D cl cy L p s m args c cc nL tys TW own) (hd : decode cc pc = .ok (.lshr, 1)) (k : yGo η kds D cl cy L Θ nL p l e R s m args below meth c Q (pc + 1) (P)) : yGo η kds D cl cy L Θ nL p l e R s m args below meth c Q (pc) (yLshr P) := by
  intro loc st h H locs ls hp g
  unfold yLshr at hp
  split at hp
  · rename_i b a st'
    obtain ⟨⟨h1, h2⟩, h4⟩ := hp
    obtain ⟨x, ex, hx⟩ := y_long (η := η) (g.2.2.1 a (List.mem_cons_of_mem _ List.mem_cons_self)) h1
    obtain ⟨y, ey, hy⟩ := y_int (η := η) (g.2.2.1 b List.mem_cons_self) h2
    have es : (x >>> (y.toInt64 &&& 63)).toInt = ylshr a.2 b.2 := by
      unfold ylshr
      rw [← hx, ← hy, z_ofi64, z_ofi]
    have w := k loc ((1, ylshr a.2 b.2) :: st') h H locs ls h4 (yg_st g (fun q hq => by
      rcases List.mem_cons.mp hq with rfl | hq
      · rw [← es]; exact y_l0 Θ _
      · exact g.2.2.1 q (List.mem_cons_of_mem _ (List.mem_cons_of_mem _ hq))))
    rw [List.map_cons, y_vl es] at w
    rw [List.map_cons, List.map_cons, ex, ey]
    exact lv_lshr X.1 X.2.1 hd rfl w
  · exact hp.elim
/-! sums and products that may wrap -/
theorem yr_wadd {Ts : List Cond} (X : hCx D cl cy L p s m args c cc nL tys Ts own) (hd : decode cc pc = .ok (.iadd, 1)) (k : yGo η kds D cl cy L Θ nL p l e R s m args below meth c Q (pc + 1) (P)) : yGo η kds D cl cy L Θ nL p l e R s m args below meth c Q (pc) (yAri 0 P) := yr_ari (fun _ _ _ _ _ _ w => lv_iadd X.1 X.2.1 hd w) k
theorem yr_wmul {Ts : List Cond} (X : hCx D cl cy L p s m args c cc nL tys Ts own) (hd : decode cc pc = .ok (.imul, 1)) (k : yGo η kds D cl cy L Θ nL p l e R s m args below meth c Q (pc + 1) (P)) : yGo η kds D cl cy L Θ nL p l e R s m args below meth c Q (pc) (yAri 2 P) := yr_ari (fun _ _ _ _ _ _ w => lv_imul X.1 X.2.1 hd w) k
end YAB
def xAbs (K : yX) : yX := fun loc st h => match st with
  | a :: st => cond (Nat.beq a.1 0) (cond (Nat.ble st.length 4) (xg (-2147483648 < a.2) (K loc ((0, if 0 ≤ a.2 then a.2 else -a.2) :: st) h)) none) none
  | _ => none
theorem x_abs {Qr : yQt} {t : Nat} {K : yX} : ∀ loc st h, xw Qr t (xAbs K) loc st h → yAbs (xw Qr t K) loc st h := by
  intro loc st h ⟨v, h2, e, q⟩
  unfold xAbs at e
  unfold yAbs
  split at e
  · rename_i a st
    obtain ⟨e1, e⟩ := xt1 e
    obtain ⟨e2, e⟩ := xt_s e
    obtain ⟨e3, e⟩ := xg_s e
    exact ⟨e1, Nat.le_of_ble_eq_true e2, e3, v, h2, e, q⟩
  · cases e
def xNeg (K : yX) : yX := fun loc st h => match st with
  | a :: st => cond (Nat.beq a.1 0) (xg (-2147483648 < a.2) (K loc ((0, -a.2) :: st) h)) none
  | _ => none
theorem x_neg {Qr : yQt} {t : Nat} {K : yX} : ∀ loc st h, xw Qr t (xNeg K) loc st h → yNeg (xw Qr t K) loc st h := by
  intro loc st h ⟨v, h2, e, q⟩
  unfold xNeg at e
  unfold yNeg
  split at e
  · rename_i a st
    obtain ⟨e1, e⟩ := xt1 e
    obtain ⟨e3, e⟩ := xg_s e
    exact ⟨e1, e3, v, h2, e, q⟩
  · cases e
def xLand (K : yX) : yX := fun loc st h => match st with
  | b :: a :: st => cond (Nat.beq a.1 1 && Nat.beq b.1 1) (K loc ((1, yland a.2 b.2) :: st) h) none
  | _ => none
theorem x_land {Qr : yQt} {t : Nat} {K : yX} : ∀ loc st h, xw Qr t (xLand K) loc st h → yLand (xw Qr t K) loc st h := by
  intro loc st h ⟨v, h2, e, q⟩
  unfold xLand at e
  unfold yLand
  split at e
  · rename_i b a st
    obtain ⟨e1, e⟩ := xt2 e
    exact ⟨e1, v, h2, e, q⟩
  · cases e
def xLshr (K : yX) : yX := fun loc st h => match st with
  | b :: a :: st => cond (Nat.beq a.1 1 && Nat.beq b.1 0) (K loc ((1, ylshr a.2 b.2) :: st) h) none
  | _ => none
theorem x_lshr {Qr : yQt} {t : Nat} {K : yX} : ∀ loc st h, xw Qr t (xLshr K) loc st h → yLshr (xw Qr t K) loc st h := by
  intro loc st h ⟨v, h2, e, q⟩
  unfold xLshr at e
  unfold yLshr
  split at e
  · rename_i b a st
    obtain ⟨e1, e⟩ := xt2 e
    exact ⟨e1, v, h2, e, q⟩
  · cases e
/-! a reference that may be null is none: its tag is named -/
def xNm (t0 : Nat) (K : yX) : yX := fun loc st h => match st with
  | a :: st => cond (Nat.beq a.1 t0) (xg (0 ≤ a.2) (K loc ((t0 + 100000, a.2) :: st) h)) none
  | _ => none
theorem x_nm {t0 : Nat} (ht : 2 ≤ t0 ∧ t0 < 100002) {Θ : Nat → Option Nat} {Qr : yQt} {t : Nat} {K : yX} : ∀ loc st h, xw Qr t (xNm t0 K) loc st h → yNn Θ (xw Qr t K) loc st h := by
  intro loc st h ⟨v, h2, e, q⟩
  unfold xNm at e
  unfold yNn
  split at e
  · rename_i a st
    obtain ⟨a1, a2⟩ := a
    obtain ⟨e1, e⟩ := xt1 e
    obtain ⟨e2, e⟩ := xg_s e
    simp only at e1
    subst e1
    exact ⟨ht, e2, fun _ => ⟨v, h2, e, q⟩⟩
  · cases e
end
section
set_option maxRecDepth 100000 in
theorem yq_X9_findSea : tables_1_4[15]? = some (.code yX9_findSea cX9_findSea 2 (some (.object "ShoalClaims$Sea"))) := rfl
theorem yw_X9_findSea : zMV yX9_findSea cX9_findSea 2 (some (.object "ShoalClaims$Sea")) 1 := ⟨⟨zTi_1 2 (by decide +kernel) rfl, zTi_4 15 yq_X9_findSea rfl, ⟨by decide, by decide⟩, by decide +kernel⟩, zTi_4 13 (by decide +kernel) rfl, zTi_4 14 (by decide +kernel) rfl⟩
theorem yt_X9_findSea_0 : decode cX9_findSea 0 = .ok (.iload_n 1, 1) := by decide +kernel
theorem yt_X9_findSea_1 : decode cX9_findSea 1 = .ok (.ifCond .lt 13, 3) := by decide +kernel
theorem yt_X9_findSea_14 : decode cX9_findSea 14 = .ok (.aconst_null, 1) := by decide +kernel
theorem yt_X9_findSea_15 : decode cX9_findSea 15 = .ok (.goto 9, 3) := by decide +kernel
theorem yt_X9_findSea_24 : decode cX9_findSea 24 = .ok (.areturn, 1) := by decide +kernel
theorem yt_X9_findSea_4 : decode cX9_findSea 4 = .ok (.iload_n 1, 1) := by decide +kernel
theorem yt_X9_findSea_5 : decode cX9_findSea 5 = .ok (.aload_n 0, 1) := by decide +kernel
theorem yt_X9_findSea_6 : decode cX9_findSea 6 = .ok (.getfield 18, 3) := by decide +kernel
theorem yt_X9_findSea_9 : decode cX9_findSea 9 = .ok (.iconst 0, 1) := by decide +kernel
theorem yt_X9_findSea_10 : decode cX9_findSea 10 = .ok (.iaload, 1) := by decide +kernel
theorem yt_X9_findSea_11 : decode cX9_findSea 11 = .ok (.if_icmp .lt 7, 3) := by decide +kernel
theorem yt_X9_findSea_18 : decode cX9_findSea 18 = .ok (.aload_n 0, 1) := by decide +kernel
theorem yt_X9_findSea_19 : decode cX9_findSea 19 = .ok (.getfield 25, 3) := by decide +kernel
theorem yt_X9_findSea_22 : decode cX9_findSea 22 = .ok (.iload_n 1, 1) := by decide +kernel
theorem yt_X9_findSea_23 : decode cX9_findSea 23 = .ok (.aaload, 1) := by decide +kernel
def xp_X9_findSea (n : Nat) : yX := (xLd 1 0 (xLt0 (xCst 2 (-1) (xRa 15)) (xLd 1 0 (xLd 0 100030 (xGetO 28 1 24 3 (xCst 0 0 (xAld 24 3 (xLt (xLd 0 100030 (xGetO 28 2 25 4 (xLd 1 0 (xAldO 25 2 15 13 10 (xRa 15))))) (xCst 2 (-1) (xRa 15))))))))))
theorem s_X9_findSea {η : zRn} {D : va_G} {cy : Nat → ClassId} {L : List Nat} {Θ : Nat → Option Nat} {p : Program} {l : Launch} {e : Env} {R : Room} {s : State} {m : MethodId} {args : Array Value} {below : List Frame} {meth : Method} {c : Code} {Q : State → Prop} {Qr : yQt} {n : Nat} (Z : yCz η zkds D vwCl cy L Θ 2 p l e R s m args below meth c Q cX9_findSea (tyW cy) RX9 zTW zKP tyW (some (.object "ShoalClaims$Sea")) 0 0 Qr) : yGo η zkds D vwCl cy L Θ 2 p l e R s m args below meth c Q 0 (xw Qr 17 (xp_X9_findSea n)) := (yr_mono x_ld (yr_iload_n Z.1 rfl yt_X9_findSea_0 (yr_mono x_lt0 (yr_lt0 Z.1 yt_X9_findSea_1 (by first | decide | rfl) (yr_mono x_cst (yr_null Z.1 yt_X9_findSea_14 (yr_goto Z.1 yt_X9_findSea_15 (by first | decide | rfl) (yr_mono x_ra (yr_ra Z (by decide) rfl yt_X9_findSea_24))))) (yr_mono x_ld (yr_iload_n Z.1 rfl yt_X9_findSea_4 (yr_mono x_ld (yr_aload_n Z.1 rfl (by decide) yt_X9_findSea_5 (yr_mono x_geto (yr_getP (lo := 0) (hi := 2147483647) Z.1 yf_RX9_18 (by decide +kernel) yt_X9_findSea_6 (yr_mono x_cst (yr_iconst Z.1 yt_X9_findSea_9 (by decide) (yr_mono x_ald (yr_iald (lo := 0) (hi := 2) Z.1 (by decide +kernel) yt_X9_findSea_10 (yr_mono x_lt (yr_lt Z.1 yt_X9_findSea_11 (by first | decide | rfl) (yr_mono x_ld (yr_aload_n Z.1 rfl (by decide) yt_X9_findSea_18 (yr_mono x_geto (yr_getP (lo := 0) (hi := 2147483647) Z.1 yf_RX9_25 (by decide +kernel) yt_X9_findSea_19 (yr_mono x_ld (yr_iload_n Z.1 rfl yt_X9_findSea_22 (yr_mono x_aldo (yr_aldq Z.1 (by decide +kernel) yt_X9_findSea_23 (yr_mono x_ra (yr_ra Z (by decide) rfl yt_X9_findSea_24)))))))))) (yr_mono x_cst (yr_null Z.1 yt_X9_findSea_14 (yr_goto Z.1 yt_X9_findSea_15 (by first | decide | rfl) (yr_mono x_ra (yr_ra Z (by decide) rfl yt_X9_findSea_24)))))))))))))))))))))
def f_X9_findSea : yFn := fun n ys h => (fun n => xp_X9_findSea n) n (yar 0 ([100030, 0].zip ys)) [] h
theorem m_X9_findSea (l : Launch) : yMet zkds vwCl zTW zKP l (yX9_findSea, cX9_findSea, 2, (some (.object "ShoalClaims$Sea"))) 0 0 [100030, 0] (yF 17 f_X9_findSea) := y_metF zkp_ok zTW_good (yX9_findSea, cX9_findSea, 2, (some (.object "ShoalClaims$Sea"))) 0 0 [100030, 0] 17 (fun n => xp_X9_findSea n) (by decide +kernel) (by decide) (fun η D cy L Θ p e R s m args below meth c Q Qr n Z => s_X9_findSea (n := n) Z)
set_option maxRecDepth 100000 in
theorem e_X9_findSea {n : Nat} {x1 : Int} {h : yH} : f_X9_findSea n [3, x1] h = if x1 < 0 then (some ((-1), h)) else (xg (h 3 1 = 6) (if x1 < (h 6 0) then (xg (h 3 2 = 7) (xg (0 ≤ x1 ∧ x1 < 2) (xg (h 7 x1.toNat = (7 + 13 + 10 * x1)) (some ((7 + 13 + 10 * x1), h))))) else (some ((-1), h)))) := by rfl
set_option maxRecDepth 100000 in
theorem yq_X9_findDay : tables_1_4[86]? = some (.code yX9_findDay cX9_findDay 2 (some (.object "ShoalClaims$Day"))) := rfl
theorem yw_X9_findDay : zMV yX9_findDay cX9_findDay 2 (some (.object "ShoalClaims$Day")) 1 := ⟨⟨zTi_1 2 (by decide +kernel) rfl, zTi_4 86 yq_X9_findDay rfl, ⟨by decide, by decide⟩, by decide +kernel⟩, zTi_4 84 (by decide +kernel) rfl, zTi_4 85 (by decide +kernel) rfl⟩
theorem yt_X9_findDay_0 : decode cX9_findDay 0 = .ok (.iload_n 1, 1) := by decide +kernel
theorem yt_X9_findDay_1 : decode cX9_findDay 1 = .ok (.ifCond .lt 13, 3) := by decide +kernel
theorem yt_X9_findDay_14 : decode cX9_findDay 14 = .ok (.aconst_null, 1) := by decide +kernel
theorem yt_X9_findDay_15 : decode cX9_findDay 15 = .ok (.goto 9, 3) := by decide +kernel
theorem yt_X9_findDay_24 : decode cX9_findDay 24 = .ok (.areturn, 1) := by decide +kernel
theorem yt_X9_findDay_4 : decode cX9_findDay 4 = .ok (.iload_n 1, 1) := by decide +kernel
theorem yt_X9_findDay_5 : decode cX9_findDay 5 = .ok (.aload_n 0, 1) := by decide +kernel
theorem yt_X9_findDay_6 : decode cX9_findDay 6 = .ok (.getfield 18, 3) := by decide +kernel
theorem yt_X9_findDay_9 : decode cX9_findDay 9 = .ok (.iconst 1, 1) := by decide +kernel
theorem yt_X9_findDay_10 : decode cX9_findDay 10 = .ok (.iaload, 1) := by decide +kernel
theorem yt_X9_findDay_11 : decode cX9_findDay 11 = .ok (.if_icmp .lt 7, 3) := by decide +kernel
theorem yt_X9_findDay_18 : decode cX9_findDay 18 = .ok (.aload_n 0, 1) := by decide +kernel
theorem yt_X9_findDay_19 : decode cX9_findDay 19 = .ok (.getfield 32, 3) := by decide +kernel
theorem yt_X9_findDay_22 : decode cX9_findDay 22 = .ok (.iload_n 1, 1) := by decide +kernel
theorem yt_X9_findDay_23 : decode cX9_findDay 23 = .ok (.aaload, 1) := by decide +kernel
def xp_X9_findDay (n : Nat) : yX := (xLd 1 0 (xLt0 (xCst 2 (-1) (xRa 18)) (xLd 1 0 (xLd 0 100030 (xGetO 28 1 24 3 (xCst 0 1 (xAld 24 3 (xLt (xLd 0 100030 (xGetO 28 3 26 5 (xLd 1 0 (xAldO 26 2 18 32 10 (xRa 18))))) (xCst 2 (-1) (xRa 18))))))))))
theorem s_X9_findDay {η : zRn} {D : va_G} {cy : Nat → ClassId} {L : List Nat} {Θ : Nat → Option Nat} {p : Program} {l : Launch} {e : Env} {R : Room} {s : State} {m : MethodId} {args : Array Value} {below : List Frame} {meth : Method} {c : Code} {Q : State → Prop} {Qr : yQt} {n : Nat} (Z : yCz η zkds D vwCl cy L Θ 2 p l e R s m args below meth c Q cX9_findDay (tyW cy) RX9 zTW zKP tyW (some (.object "ShoalClaims$Day")) 0 0 Qr) : yGo η zkds D vwCl cy L Θ 2 p l e R s m args below meth c Q 0 (xw Qr 20 (xp_X9_findDay n)) := (yr_mono x_ld (yr_iload_n Z.1 rfl yt_X9_findDay_0 (yr_mono x_lt0 (yr_lt0 Z.1 yt_X9_findDay_1 (by first | decide | rfl) (yr_mono x_cst (yr_null Z.1 yt_X9_findDay_14 (yr_goto Z.1 yt_X9_findDay_15 (by first | decide | rfl) (yr_mono x_ra (yr_ra Z (by decide) rfl yt_X9_findDay_24))))) (yr_mono x_ld (yr_iload_n Z.1 rfl yt_X9_findDay_4 (yr_mono x_ld (yr_aload_n Z.1 rfl (by decide) yt_X9_findDay_5 (yr_mono x_geto (yr_getP (lo := 0) (hi := 2147483647) Z.1 yf_RX9_18 (by decide +kernel) yt_X9_findDay_6 (yr_mono x_cst (yr_iconst Z.1 yt_X9_findDay_9 (by decide) (yr_mono x_ald (yr_iald (lo := 0) (hi := 2) Z.1 (by decide +kernel) yt_X9_findDay_10 (yr_mono x_lt (yr_lt Z.1 yt_X9_findDay_11 (by first | decide | rfl) (yr_mono x_ld (yr_aload_n Z.1 rfl (by decide) yt_X9_findDay_18 (yr_mono x_geto (yr_getP (lo := 0) (hi := 2147483647) Z.1 yf_RX9_32 (by decide +kernel) yt_X9_findDay_19 (yr_mono x_ld (yr_iload_n Z.1 rfl yt_X9_findDay_22 (yr_mono x_aldo (yr_aldq Z.1 (by decide +kernel) yt_X9_findDay_23 (yr_mono x_ra (yr_ra Z (by decide) rfl yt_X9_findDay_24)))))))))) (yr_mono x_cst (yr_null Z.1 yt_X9_findDay_14 (yr_goto Z.1 yt_X9_findDay_15 (by first | decide | rfl) (yr_mono x_ra (yr_ra Z (by decide) rfl yt_X9_findDay_24)))))))))))))))))))))
def f_X9_findDay : yFn := fun n ys h => (fun n => xp_X9_findDay n) n (yar 0 ([100030, 0].zip ys)) [] h
theorem m_X9_findDay (l : Launch) : yMet zkds vwCl zTW zKP l (yX9_findDay, cX9_findDay, 2, (some (.object "ShoalClaims$Day"))) 0 0 [100030, 0] (yF 20 f_X9_findDay) := y_metF zkp_ok zTW_good (yX9_findDay, cX9_findDay, 2, (some (.object "ShoalClaims$Day"))) 0 0 [100030, 0] 20 (fun n => xp_X9_findDay n) (by decide +kernel) (by decide) (fun η D cy L Θ p e R s m args below meth c Q Qr n Z => s_X9_findDay (n := n) Z)
set_option maxRecDepth 100000 in
theorem e_X9_findDay {n : Nat} {x1 : Int} {h : yH} : f_X9_findDay n [3, x1] h = if x1 < 0 then (some ((-1), h)) else (xg (h 3 1 = 6) (if x1 < (h 6 1) then (xg (h 3 3 = 8) (xg (0 ≤ x1 ∧ x1 < 2) (xg (h 8 x1.toNat = (8 + 32 + 10 * x1)) (some ((8 + 32 + 10 * x1), h))))) else (some ((-1), h)))) := by rfl
set_option maxRecDepth 100000 in
theorem yq_X9_findDispute : tables_1_5[84]? = some (.code yX9_findDispute cX9_findDispute 2 (some (.object "ShoalClaims$Dispute"))) := rfl
theorem yw_X9_findDispute : zMV yX9_findDispute cX9_findDispute 2 (some (.object "ShoalClaims$Dispute")) 1 := ⟨⟨zTi_1 2 (by decide +kernel) rfl, zTi_5 84 yq_X9_findDispute rfl, ⟨by decide, by decide⟩, by decide +kernel⟩, zTi_5 82 (by decide +kernel) rfl, zTi_5 83 (by decide +kernel) rfl⟩
theorem yt_X9_findDispute_0 : decode cX9_findDispute 0 = .ok (.iload_n 1, 1) := by decide +kernel
theorem yt_X9_findDispute_1 : decode cX9_findDispute 1 = .ok (.ifCond .lt 13, 3) := by decide +kernel
theorem yt_X9_findDispute_14 : decode cX9_findDispute 14 = .ok (.aconst_null, 1) := by decide +kernel
theorem yt_X9_findDispute_15 : decode cX9_findDispute 15 = .ok (.goto 9, 3) := by decide +kernel
theorem yt_X9_findDispute_24 : decode cX9_findDispute 24 = .ok (.areturn, 1) := by decide +kernel
theorem yt_X9_findDispute_4 : decode cX9_findDispute 4 = .ok (.iload_n 1, 1) := by decide +kernel
theorem yt_X9_findDispute_5 : decode cX9_findDispute 5 = .ok (.aload_n 0, 1) := by decide +kernel
theorem yt_X9_findDispute_6 : decode cX9_findDispute 6 = .ok (.getfield 18, 3) := by decide +kernel
theorem yt_X9_findDispute_9 : decode cX9_findDispute 9 = .ok (.iconst 2, 1) := by decide +kernel
theorem yt_X9_findDispute_10 : decode cX9_findDispute 10 = .ok (.iaload, 1) := by decide +kernel
theorem yt_X9_findDispute_11 : decode cX9_findDispute 11 = .ok (.if_icmp .lt 7, 3) := by decide +kernel
theorem yt_X9_findDispute_18 : decode cX9_findDispute 18 = .ok (.aload_n 0, 1) := by decide +kernel
theorem yt_X9_findDispute_19 : decode cX9_findDispute 19 = .ok (.getfield 39, 3) := by decide +kernel
theorem yt_X9_findDispute_22 : decode cX9_findDispute 22 = .ok (.iload_n 1, 1) := by decide +kernel
theorem yt_X9_findDispute_23 : decode cX9_findDispute 23 = .ok (.aaload, 1) := by decide +kernel
def xp_X9_findDispute (n : Nat) : yX := (xLd 1 0 (xLt0 (xCst 2 (-1) (xRa 23)) (xLd 1 0 (xLd 0 100030 (xGetO 28 1 24 3 (xCst 0 2 (xAld 24 3 (xLt (xLd 0 100030 (xGetO 28 4 27 6 (xLd 1 0 (xAldO 27 2 23 51 10 (xRa 23))))) (xCst 2 (-1) (xRa 23))))))))))
theorem s_X9_findDispute {η : zRn} {D : va_G} {cy : Nat → ClassId} {L : List Nat} {Θ : Nat → Option Nat} {p : Program} {l : Launch} {e : Env} {R : Room} {s : State} {m : MethodId} {args : Array Value} {below : List Frame} {meth : Method} {c : Code} {Q : State → Prop} {Qr : yQt} {n : Nat} (Z : yCz η zkds D vwCl cy L Θ 2 p l e R s m args below meth c Q cX9_findDispute (tyW cy) RX9 zTW zKP tyW (some (.object "ShoalClaims$Dispute")) 0 0 Qr) : yGo η zkds D vwCl cy L Θ 2 p l e R s m args below meth c Q 0 (xw Qr 25 (xp_X9_findDispute n)) := (yr_mono x_ld (yr_iload_n Z.1 rfl yt_X9_findDispute_0 (yr_mono x_lt0 (yr_lt0 Z.1 yt_X9_findDispute_1 (by first | decide | rfl) (yr_mono x_cst (yr_null Z.1 yt_X9_findDispute_14 (yr_goto Z.1 yt_X9_findDispute_15 (by first | decide | rfl) (yr_mono x_ra (yr_ra Z (by decide) rfl yt_X9_findDispute_24))))) (yr_mono x_ld (yr_iload_n Z.1 rfl yt_X9_findDispute_4 (yr_mono x_ld (yr_aload_n Z.1 rfl (by decide) yt_X9_findDispute_5 (yr_mono x_geto (yr_getP (lo := 0) (hi := 2147483647) Z.1 yf_RX9_18 (by decide +kernel) yt_X9_findDispute_6 (yr_mono x_cst (yr_iconst Z.1 yt_X9_findDispute_9 (by decide) (yr_mono x_ald (yr_iald (lo := 0) (hi := 2) Z.1 (by decide +kernel) yt_X9_findDispute_10 (yr_mono x_lt (yr_lt Z.1 yt_X9_findDispute_11 (by first | decide | rfl) (yr_mono x_ld (yr_aload_n Z.1 rfl (by decide) yt_X9_findDispute_18 (yr_mono x_geto (yr_getP (lo := 0) (hi := 2147483647) Z.1 yf_RX9_39 (by decide +kernel) yt_X9_findDispute_19 (yr_mono x_ld (yr_iload_n Z.1 rfl yt_X9_findDispute_22 (yr_mono x_aldo (yr_aldq Z.1 (by decide +kernel) yt_X9_findDispute_23 (yr_mono x_ra (yr_ra Z (by decide) rfl yt_X9_findDispute_24)))))))))) (yr_mono x_cst (yr_null Z.1 yt_X9_findDispute_14 (yr_goto Z.1 yt_X9_findDispute_15 (by first | decide | rfl) (yr_mono x_ra (yr_ra Z (by decide) rfl yt_X9_findDispute_24)))))))))))))))))))))
def f_X9_findDispute : yFn := fun n ys h => (fun n => xp_X9_findDispute n) n (yar 0 ([100030, 0].zip ys)) [] h
theorem m_X9_findDispute (l : Launch) : yMet zkds vwCl zTW zKP l (yX9_findDispute, cX9_findDispute, 2, (some (.object "ShoalClaims$Dispute"))) 0 0 [100030, 0] (yF 25 f_X9_findDispute) := y_metF zkp_ok zTW_good (yX9_findDispute, cX9_findDispute, 2, (some (.object "ShoalClaims$Dispute"))) 0 0 [100030, 0] 25 (fun n => xp_X9_findDispute n) (by decide +kernel) (by decide) (fun η D cy L Θ p e R s m args below meth c Q Qr n Z => s_X9_findDispute (n := n) Z)
set_option maxRecDepth 100000 in
theorem e_X9_findDispute {n : Nat} {x1 : Int} {h : yH} : f_X9_findDispute n [3, x1] h = if x1 < 0 then (some ((-1), h)) else (xg (h 3 1 = 6) (if x1 < (h 6 2) then (xg (h 3 4 = 9) (xg (0 ≤ x1 ∧ x1 < 2) (xg (h 9 x1.toNat = (9 + 51 + 10 * x1)) (some ((9 + 51 + 10 * x1), h))))) else (some ((-1), h)))) := by rfl
set_option maxRecDepth 100000 in
theorem yq_X1_numberOf : tables_1_4[90]? = some (.code yX1_numberOf cX1_numberOf 3 (some .int)) := rfl
theorem yw_X1_numberOf : zMV yX1_numberOf cX1_numberOf 3 (some .int) 2 := ⟨⟨zTi_1 5 (by decide +kernel) rfl, zTi_4 90 yq_X1_numberOf rfl, ⟨by decide, by decide⟩, by decide +kernel⟩, zTi_4 88 (by decide +kernel) rfl, zTi_4 89 (by decide +kernel) rfl⟩
theorem yt_X1_numberOf_0 : decode cX1_numberOf 0 = .ok (.aload_n 0, 1) := by decide +kernel
theorem yt_X1_numberOf_1 : decode cX1_numberOf 1 = .ok (.getfield 15, 3) := by decide +kernel
theorem yt_X1_numberOf_4 : decode cX1_numberOf 4 = .ok (.iconst 3, 1) := by decide +kernel
theorem yt_X1_numberOf_5 : decode cX1_numberOf 5 = .ok (.iload_n 1, 1) := by decide +kernel
theorem yt_X1_numberOf_6 : decode cX1_numberOf 6 = .ok (.imul, 1) := by decide +kernel
theorem yt_X1_numberOf_7 : decode cX1_numberOf 7 = .ok (.iload_n 2, 1) := by decide +kernel
theorem yt_X1_numberOf_8 : decode cX1_numberOf 8 = .ok (.iadd, 1) := by decide +kernel
theorem yt_X1_numberOf_9 : decode cX1_numberOf 9 = .ok (.iaload, 1) := by decide +kernel
theorem yt_X1_numberOf_10 : decode cX1_numberOf 10 = .ok (.ireturn, 1) := by decide +kernel
def xp_X1_numberOf (n : Nat) : yX := (xLd 0 100020 (xGetO 18 2 17 2 (xCst 0 3 (xLd 1 0 (xMul (xLd 2 0 (xAdd (xAld 17 90 xRi))))))))
theorem s_X1_numberOf {η : zRn} {D : va_G} {cy : Nat → ClassId} {L : List Nat} {Θ : Nat → Option Nat} {p : Program} {l : Launch} {e : Env} {R : Room} {s : State} {m : MethodId} {args : Array Value} {below : List Frame} {meth : Method} {c : Code} {Q : State → Prop} {Qr : yQt} {n : Nat} (Z : yCz η zkds D vwCl cy L Θ 3 p l e R s m args below meth c Q cX1_numberOf (tyW cy) RX1 zTW zKP tyW (some .int) 0 0 Qr) : yGo η zkds D vwCl cy L Θ 3 p l e R s m args below meth c Q 0 (xw Qr 0 (xp_X1_numberOf n)) := (yr_mono x_ld (yr_aload_n Z.1 rfl (by decide) yt_X1_numberOf_0 (yr_mono x_geto (yr_getP (lo := 0) (hi := 2147483647) Z.1 yf_RX1_15 (by decide +kernel) yt_X1_numberOf_1 (yr_mono x_cst (yr_iconst Z.1 yt_X1_numberOf_4 (by decide) (yr_mono x_ld (yr_iload_n Z.1 rfl yt_X1_numberOf_5 (yr_mono x_mul (yr_mul Z.1 yt_X1_numberOf_6 (yr_mono x_ld (yr_iload_n Z.1 rfl yt_X1_numberOf_7 (yr_mono x_add (yr_add Z.1 yt_X1_numberOf_8 (yr_mono x_ald (yr_iald (lo := (-2147483648)) (hi := 2147483647) Z.1 (by decide +kernel) yt_X1_numberOf_9 (yr_mono x_ri (yr_ri Z rfl yt_X1_numberOf_10))))))))))))))))))
def f_X1_numberOf : yFn := fun n ys h => (fun n => xp_X1_numberOf n) n (yar 0 ([100020, 0, 0].zip ys)) [] h
theorem m_X1_numberOf (l : Launch) : yMet zkds vwCl zTW zKP l (yX1_numberOf, cX1_numberOf, 3, (some .int)) 0 0 [100020, 0, 0] (yF 0 f_X1_numberOf) := y_metF zkp_ok zTW_good (yX1_numberOf, cX1_numberOf, 3, (some .int)) 0 0 [100020, 0, 0] 0 (fun n => xp_X1_numberOf n) (by decide +kernel) (by decide) (fun η D cy L Θ p e R s m args below meth c Q Qr n Z => s_X1_numberOf (n := n) Z)
set_option maxRecDepth 100000 in
theorem e_X1_numberOf {n : Nat} {x0 x1 x2 : Int} {h : yH} : f_X1_numberOf n [x0, x1, x2] h = xg (h x0.toNat 2 = (x0 + 2)) (xg (-2147483648 ≤ 3 * x1 ∧ 3 * x1 ≤ 2147483647) (xg (-2147483648 ≤ (3 * x1) + x2 ∧ (3 * x1) + x2 ≤ 2147483647) (xg (0 ≤ ((3 * x1) + x2) ∧ ((3 * x1) + x2) < 90) (some ((h (x0 + 2).toNat ((3 * x1) + x2).toNat), h))))) := by rfl
set_option maxRecDepth 100000 in
theorem yq_X11_deed : tables_1_4[82]? = some (.code yX11_deed cX11_deed 5 (some .int)) := rfl
theorem yw_X11_deed : zMV yX11_deed cX11_deed 5 (some .int) 3 := ⟨⟨zTi_1 1 (by decide +kernel) rfl, zTi_4 82 yq_X11_deed rfl, ⟨by decide, by decide⟩, by decide +kernel⟩, zTi_4 80 (by decide +kernel) rfl, zTi_4 81 (by decide +kernel) rfl⟩
theorem yt_X11_deed_0 : decode cX11_deed 0 = .ok (.aload_n 0, 1) := by decide +kernel
theorem yt_X11_deed_1 : decode cX11_deed 1 = .ok (.getfield 10, 3) := by decide +kernel
theorem yt_X11_deed_4 : decode cX11_deed 4 = .ok (.iload_n 1, 1) := by decide +kernel
theorem yt_X11_deed_5 : decode cX11_deed 5 = .ok (.invokevirtual 170, 3) := by decide +kernel
theorem yl_RX11_170 : Cond.methodLink RX11 170 yX9_findDay ∈ zTW := zTi_4 83 (by decide +kernel) rfl
theorem yt_X11_deed_8 : decode cX11_deed 8 = .ok (.astore 4, 2) := by decide +kernel
theorem yt_X11_deed_10 : decode cX11_deed 10 = .ok (.aload 4, 2) := by decide +kernel
theorem yt_X11_deed_12 : decode cX11_deed 12 = .ok (.ifnonnull 6, 3) := by decide +kernel
theorem yt_X11_deed_18 : decode cX11_deed 18 = .ok (.iload_n 2, 1) := by decide +kernel
theorem yt_X11_deed_19 : decode cX11_deed 19 = .ok (.iconst (-1), 1) := by decide +kernel
theorem yt_X11_deed_20 : decode cX11_deed 20 = .ok (.if_icmp .ne 18, 3) := by decide +kernel
theorem yt_X11_deed_38 : decode cX11_deed 38 = .ok (.iload_n 2, 1) := by decide +kernel
theorem yt_X11_deed_39 : decode cX11_deed 39 = .ok (.ifCond .lt 21, 3) := by decide +kernel
theorem yt_X11_deed_60 : decode cX11_deed 60 = .ok (.bipush (-2), 2) := by decide +kernel
theorem yt_X11_deed_62 : decode cX11_deed 62 = .ok (.ireturn, 1) := by decide +kernel
theorem yt_X11_deed_42 : decode cX11_deed 42 = .ok (.iload_n 2, 1) := by decide +kernel
theorem yt_X11_deed_43 : decode cX11_deed 43 = .ok (.aload 4, 2) := by decide +kernel
theorem yt_X11_deed_45 : decode cX11_deed 45 = .ok (.getfield 174, 3) := by decide +kernel
theorem yf_RX11_174 : zFok RX11 zTW vwCl (174, 1, 0, (some .int)) := ⟨RX1, TX1, 3, rfl, zx_1, by decide, zTi_1 160 (by decide +kernel) rfl, fun ty h => ⟨rfl, tyX1, tyX1_ok, nmX1, by cases h; rfl⟩⟩
theorem yt_X11_deed_48 : decode cX11_deed 48 = .ok (.if_icmp .ge 12, 3) := by decide +kernel
theorem yt_X11_deed_51 : decode cX11_deed 51 = .ok (.iload_n 3, 1) := by decide +kernel
theorem yt_X11_deed_52 : decode cX11_deed 52 = .ok (.ifCond .lt 8, 3) := by decide +kernel
theorem yt_X11_deed_55 : decode cX11_deed 55 = .ok (.iload_n 3, 1) := by decide +kernel
theorem yt_X11_deed_56 : decode cX11_deed 56 = .ok (.iconst 3, 1) := by decide +kernel
theorem yt_X11_deed_57 : decode cX11_deed 57 = .ok (.if_icmp .le 6, 3) := by decide +kernel
theorem yt_X11_deed_63 : decode cX11_deed 63 = .ok (.iload_n 3, 1) := by decide +kernel
theorem yt_X11_deed_64 : decode cX11_deed 64 = .ok (.ifCond .ne 13, 3) := by decide +kernel
theorem yt_X11_deed_77 : decode cX11_deed 77 = .ok (.aload 4, 2) := by decide +kernel
theorem yt_X11_deed_79 : decode cX11_deed 79 = .ok (.iload_n 2, 1) := by decide +kernel
theorem yt_X11_deed_80 : decode cX11_deed 80 = .ok (.iload_n 3, 1) := by decide +kernel
theorem yt_X11_deed_81 : decode cX11_deed 81 = .ok (.iconst 1, 1) := by decide +kernel
theorem yt_X11_deed_82 : decode cX11_deed 82 = .ok (.isub, 1) := by decide +kernel
theorem yt_X11_deed_83 : decode cX11_deed 83 = .ok (.invokevirtual 182, 3) := by decide +kernel
theorem yl_RX11_182 : Cond.methodLink RX11 182 yX1_numberOf ∈ zTW := zTi_4 87 (by decide +kernel) rfl
theorem yt_X11_deed_86 : decode cX11_deed 86 = .ok (.ireturn, 1) := by decide +kernel
theorem yt_X11_deed_67 : decode cX11_deed 67 = .ok (.aload 4, 2) := by decide +kernel
theorem yt_X11_deed_69 : decode cX11_deed 69 = .ok (.getfield 179, 3) := by decide +kernel
theorem yf_RX11_179 : zFok RX11 zTW vwCl (179, 1, 1, none) := ⟨RX1, TX1, 3, rfl, zx_1, by decide, zTi_1 164 (by decide +kernel) rfl, fun _ h => by cases h⟩
theorem yt_X11_deed_72 : decode cX11_deed 72 = .ok (.iload_n 2, 1) := by decide +kernel
theorem yt_X11_deed_73 : decode cX11_deed 73 = .ok (.iaload, 1) := by decide +kernel
theorem yt_X11_deed_74 : decode cX11_deed 74 = .ok (.goto 12, 3) := by decide +kernel
theorem yt_X11_deed_23 : decode cX11_deed 23 = .ok (.iload_n 3, 1) := by decide +kernel
theorem yt_X11_deed_24 : decode cX11_deed 24 = .ok (.ifCond .ne 11, 3) := by decide +kernel
theorem yt_X11_deed_35 : decode cX11_deed 35 = .ok (.bipush (-2), 2) := by decide +kernel
theorem yt_X11_deed_37 : decode cX11_deed 37 = .ok (.ireturn, 1) := by decide +kernel
theorem yt_X11_deed_27 : decode cX11_deed 27 = .ok (.aload 4, 2) := by decide +kernel
theorem yt_X11_deed_29 : decode cX11_deed 29 = .ok (.getfield 174, 3) := by decide +kernel
theorem yt_X11_deed_32 : decode cX11_deed 32 = .ok (.goto 5, 3) := by decide +kernel
theorem yt_X11_deed_15 : decode cX11_deed 15 = .ok (.bipush (-2), 2) := by decide +kernel
theorem yt_X11_deed_17 : decode cX11_deed 17 = .ok (.ireturn, 1) := by decide +kernel
def xp_X11_deed (n : Nat) : yX := (xLd 0 100065 (xGetO 63 0 28 2 (xLd 1 0 (xCalR 2 [100030, 0] 20 (f_X9_findDay n) (xSt 4 20 (xLd 4 20 (xNull (xCst 0 (-2) xRi) (xLd 2 0 (xCst 0 (-1) (xEq (xLd 3 0 (xEq0 (xLd 4 20 (xNm 20 (xGet 18 0 0 xRi))) (xCst 0 (-2) xRi))) (xLd 2 0 (xLt0 (xCst 0 (-2) xRi) (xLd 2 0 (xLd 4 20 (xNm 20 (xGet 18 0 0 (xLt (xLd 3 0 (xLt0 (xCst 0 (-2) xRi) (xLd 3 0 (xCst 0 3 (xGt (xCst 0 (-2) xRi) (xLd 3 0 (xEq0 (xLd 4 20 (xNm 20 (xGetO 18 1 16 1 (xLd 2 0 (xAld 16 30 xRi))))) (xLd 4 20 (xNm 20 (xLd 2 0 (xLd 3 0 (xCst 0 1 (xSub (xCalR 3 [100020, 0, 0] 0 (f_X1_numberOf n) xRi)))))))))))))) (xCst 0 (-2) xRi))))))))))))))))))
theorem s_X11_deed {η : zRn} {D : va_G} {cy : Nat → ClassId} {L : List Nat} {Θ : Nat → Option Nat} {p : Program} {l : Launch} {e : Env} {R : Room} {s : State} {m : MethodId} {args : Array Value} {below : List Frame} {meth : Method} {c : Code} {Q : State → Prop} {Qr : yQt} {n : Nat} (Z : yCz η zkds D vwCl cy L Θ 5 p l e R s m args below meth c Q cX11_deed (tyW cy) RX11 zTW zKP tyW (some .int) 1 22 Qr) : yGo η zkds D vwCl cy L Θ 5 p l e R s m args below meth c Q 0 (xw Qr 0 (xp_X11_deed n)) := (yr_mono x_ld (yr_aload_n Z.1 rfl (by decide) yt_X11_deed_0 (yr_mono x_geto (yr_getP (lo := 0) (hi := 2147483647) Z.1 yf_RX11_10 (by decide +kernel) yt_X11_deed_1 (yr_mono x_ld (yr_iload_n Z.1 rfl yt_X11_deed_4 (yr_mono x_calR (yr_calR rfl (y_hrunV Z (y := (yX9_findDay, cX9_findDay, 2, (some (.object "ShoalClaims$Day")))) (m_X9_findDay l) (ycv_of yw_X9_findDay 170 yt_X11_deed_5 yl_RX11_170 rfl (by decide) (by decide) ⟨28, _, _, _, _, rfl, zkd_28, rfl, rfl⟩)) (yr_mono x_st (yr_astore Z.1 (by decide) (by decide) yt_X11_deed_8 (yr_mono x_ld (yr_aload Z.1 (by decide) yt_X11_deed_10 (yr_mono x_null (yr_ifnonnull Z.1 yt_X11_deed_12 (by first | decide | rfl) (yr_mono x_ld (yr_iload_n Z.1 rfl yt_X11_deed_18 (yr_mono x_cst (yr_iconst Z.1 yt_X11_deed_19 (by decide) (yr_mono x_eq (yr_ne Z.1 yt_X11_deed_20 (by first | decide | rfl) (yr_mono x_ld (yr_iload_n Z.1 rfl yt_X11_deed_38 (yr_mono x_lt0 (yr_lt0 Z.1 yt_X11_deed_39 (by first | decide | rfl) (yr_mono x_cst (yr_bipush Z.1 yt_X11_deed_60 (by decide) (yr_mono x_ri (yr_ri Z rfl yt_X11_deed_62)))) (yr_mono x_ld (yr_iload_n Z.1 rfl yt_X11_deed_42 (yr_mono x_ld (yr_aload Z.1 (by decide) yt_X11_deed_43 (yr_mono (x_nm ⟨by decide, by decide⟩) (yr_nn (yr_mono x_get (yr_get (lo := 0) (hi := 30) Z.1 yf_RX11_174 (by decide +kernel) yt_X11_deed_45 (yr_mono x_lt (yr_ge Z.1 yt_X11_deed_48 (by first | decide | rfl) (yr_mono x_cst (yr_bipush Z.1 yt_X11_deed_60 (by decide) (yr_mono x_ri (yr_ri Z rfl yt_X11_deed_62)))) (yr_mono x_ld (yr_iload_n Z.1 rfl yt_X11_deed_51 (yr_mono x_lt0 (yr_lt0 Z.1 yt_X11_deed_52 (by first | decide | rfl) (yr_mono x_cst (yr_bipush Z.1 yt_X11_deed_60 (by decide) (yr_mono x_ri (yr_ri Z rfl yt_X11_deed_62)))) (yr_mono x_ld (yr_iload_n Z.1 rfl yt_X11_deed_55 (yr_mono x_cst (yr_iconst Z.1 yt_X11_deed_56 (by decide) (yr_mono x_gt (yr_le Z.1 yt_X11_deed_57 (by first | decide | rfl) (yr_mono x_ld (yr_iload_n Z.1 rfl yt_X11_deed_63 (yr_mono x_eq0 (yr_ne0 Z.1 yt_X11_deed_64 (by first | decide | rfl) (yr_mono x_ld (yr_aload Z.1 (by decide) yt_X11_deed_77 (yr_mono (x_nm ⟨by decide, by decide⟩) (yr_nn (yr_mono x_ld (yr_iload_n Z.1 rfl yt_X11_deed_79 (yr_mono x_ld (yr_iload_n Z.1 rfl yt_X11_deed_80 (yr_mono x_cst (yr_iconst Z.1 yt_X11_deed_81 (by decide) (yr_mono x_sub (yr_sub Z.1 yt_X11_deed_82 (yr_mono x_calR (yr_calR rfl (y_hrunV Z (y := (yX1_numberOf, cX1_numberOf, 3, (some .int))) (m_X1_numberOf l) (ycv_of yw_X1_numberOf 182 yt_X11_deed_83 yl_RX11_182 rfl (by decide) (by decide) ⟨18, _, _, _, _, rfl, zkd_18, rfl, rfl⟩)) (yr_mono x_ri (yr_ri Z rfl yt_X11_deed_86)))))))))))))))) (yr_mono x_ld (yr_aload Z.1 (by decide) yt_X11_deed_67 (yr_mono (x_nm ⟨by decide, by decide⟩) (yr_nn (yr_mono x_geto (yr_getP (lo := 0) (hi := 2147483647) Z.1 yf_RX11_179 (by decide +kernel) yt_X11_deed_69 (yr_mono x_ld (yr_iload_n Z.1 rfl yt_X11_deed_72 (yr_mono x_ald (yr_iald (lo := 0) (hi := 5) Z.1 (by decide +kernel) yt_X11_deed_73 (yr_goto Z.1 yt_X11_deed_74 (by first | decide | rfl) (yr_mono x_ri (yr_ri Z rfl yt_X11_deed_86))))))))))))))))) (yr_mono x_cst (yr_bipush Z.1 yt_X11_deed_60 (by decide) (yr_mono x_ri (yr_ri Z rfl yt_X11_deed_62)))))))))))))))))))))))))))) (yr_mono x_ld (yr_iload_n Z.1 rfl yt_X11_deed_23 (yr_mono x_eq0 (yr_ne0 Z.1 yt_X11_deed_24 (by first | decide | rfl) (yr_mono x_cst (yr_bipush Z.1 yt_X11_deed_35 (by decide) (yr_mono x_ri (yr_ri Z rfl yt_X11_deed_37)))) (yr_mono x_ld (yr_aload Z.1 (by decide) yt_X11_deed_27 (yr_mono (x_nm ⟨by decide, by decide⟩) (yr_nn (yr_mono x_get (yr_get (lo := 0) (hi := 30) Z.1 yf_RX11_174 (by decide +kernel) yt_X11_deed_29 (yr_goto Z.1 yt_X11_deed_32 (by first | decide | rfl) (yr_mono x_ri (yr_ri Z rfl yt_X11_deed_37))))))))))))))))))) (yr_mono x_cst (yr_bipush Z.1 yt_X11_deed_15 (by decide) (yr_mono x_ri (yr_ri Z rfl yt_X11_deed_17))))))))))))))))))
def f_X11_deed : yFn := fun n ys h => (fun n => xp_X11_deed n) n (yar 0 ([100065, 0, 0, 0].zip ys)) [] h
theorem m_X11_deed (l : Launch) : yMet zkds vwCl zTW zKP l (yX11_deed, cX11_deed, 5, (some .int)) 1 22 [100065, 0, 0, 0] (yF 0 f_X11_deed) := y_metF zkp_ok zTW_good (yX11_deed, cX11_deed, 5, (some .int)) 1 22 [100065, 0, 0, 0] 0 (fun n => xp_X11_deed n) (by decide +kernel) (by decide) (fun η D cy L Θ p e R s m args below meth c Q Qr n Z => s_X11_deed (n := n) Z)
set_option maxRecDepth 100000 in
theorem e_X11_deed {n : Nat} {x1 x2 x3 : Int} {h : yH} : f_X11_deed n [1, x1, x2, x3] h = xg (h 1 0 = 3) (xb (f_X9_findDay n [3, x1] h) (fun v1 h1 => if v1 < 0 then (some ((-2), h1)) else (if x2 = (-1) then (if x3 = 0 then (xg (0 ≤ v1) (some ((h1 v1.toNat 0), h1))) else (some ((-2), h1))) else (if x2 < 0 then (some ((-2), h1)) else (xg (0 ≤ v1) (if x2 < (h1 v1.toNat 0) then (if x3 < 0 then (some ((-2), h1)) else (if 3 < x3 then (some ((-2), h1)) else (if x3 = 0 then (xg (0 ≤ v1) (xg (h1 v1.toNat 1 = (v1 + 1)) (xg (0 ≤ x2 ∧ x2 < 30) (some ((h1 (v1 + 1).toNat x2.toNat), h1))))) else (xg (0 ≤ v1) (xg (-2147483648 ≤ x3 - 1 ∧ x3 - 1 ≤ 2147483647) (xb (f_X1_numberOf n [v1, x2, (x3 - 1)] h1) (fun v2 h2 => some (v2, h2)))))))) else (some ((-2), h1)))))))) := by rfl
set_option maxRecDepth 100000 in
theorem yq_X6_hasShoal : tables_1_4[23]? = some (.code yX6_hasShoal cX6_hasShoal 2 (some .boolean)) := rfl
theorem yw_X6_hasShoal : zMV yX6_hasShoal cX6_hasShoal 2 (some .boolean) 1 := ⟨⟨zTi_1 4 (by decide +kernel) rfl, zTi_4 23 yq_X6_hasShoal rfl, ⟨by decide, by decide⟩, by decide +kernel⟩, zTi_4 21 (by decide +kernel) rfl, zTi_4 22 (by decide +kernel) rfl⟩
theorem yt_X6_hasShoal_0 : decode cX6_hasShoal 0 = .ok (.iload_n 1, 1) := by decide +kernel
theorem yt_X6_hasShoal_1 : decode cX6_hasShoal 1 = .ok (.ifCond .lt 15, 3) := by decide +kernel
theorem yt_X6_hasShoal_16 : decode cX6_hasShoal 16 = .ok (.iconst 0, 1) := by decide +kernel
theorem yt_X6_hasShoal_17 : decode cX6_hasShoal 17 = .ok (.ireturn, 1) := by decide +kernel
theorem yt_X6_hasShoal_4 : decode cX6_hasShoal 4 = .ok (.iload_n 1, 1) := by decide +kernel
theorem yt_X6_hasShoal_5 : decode cX6_hasShoal 5 = .ok (.aload_n 0, 1) := by decide +kernel
theorem yt_X6_hasShoal_6 : decode cX6_hasShoal 6 = .ok (.getfield 49, 3) := by decide +kernel
theorem yt_X6_hasShoal_9 : decode cX6_hasShoal 9 = .ok (.if_icmp .ge 7, 3) := by decide +kernel
theorem yt_X6_hasShoal_12 : decode cX6_hasShoal 12 = .ok (.iconst 1, 1) := by decide +kernel
theorem yt_X6_hasShoal_13 : decode cX6_hasShoal 13 = .ok (.goto 4, 3) := by decide +kernel
def xp_X6_hasShoal (n : Nat) : yX := (xLd 1 0 (xLt0 (xCst 0 0 xRz) (xLd 1 0 (xLd 0 100017 (xGet 15 6 0 (xLt (xCst 0 1 xRz) (xCst 0 0 xRz)))))))
theorem s_X6_hasShoal {η : zRn} {D : va_G} {cy : Nat → ClassId} {L : List Nat} {Θ : Nat → Option Nat} {p : Program} {l : Launch} {e : Env} {R : Room} {s : State} {m : MethodId} {args : Array Value} {below : List Frame} {meth : Method} {c : Code} {Q : State → Prop} {Qr : yQt} {n : Nat} (Z : yCz η zkds D vwCl cy L Θ 2 p l e R s m args below meth c Q cX6_hasShoal (tyW cy) RX6 zTW zKP tyW (some .boolean) 0 0 Qr) : yGo η zkds D vwCl cy L Θ 2 p l e R s m args below meth c Q 0 (xw Qr 0 (xp_X6_hasShoal n)) := (yr_mono x_ld (yr_iload_n Z.1 rfl yt_X6_hasShoal_0 (yr_mono x_lt0 (yr_lt0 Z.1 yt_X6_hasShoal_1 (by first | decide | rfl) (yr_mono x_cst (yr_iconst Z.1 yt_X6_hasShoal_16 (by decide) (yr_mono x_rz (yr_rz Z rfl yt_X6_hasShoal_17)))) (yr_mono x_ld (yr_iload_n Z.1 rfl yt_X6_hasShoal_4 (yr_mono x_ld (yr_aload_n Z.1 rfl (by decide) yt_X6_hasShoal_5 (yr_mono x_get (yr_get (lo := 0) (hi := 4) Z.1 yf_RX6_49 (by decide +kernel) yt_X6_hasShoal_6 (yr_mono x_lt (yr_ge Z.1 yt_X6_hasShoal_9 (by first | decide | rfl) (yr_mono x_cst (yr_iconst Z.1 yt_X6_hasShoal_16 (by decide) (yr_mono x_rz (yr_rz Z rfl yt_X6_hasShoal_17)))) (yr_mono x_cst (yr_iconst Z.1 yt_X6_hasShoal_12 (by decide) (yr_goto Z.1 yt_X6_hasShoal_13 (by first | decide | rfl) (yr_mono x_rz (yr_rz Z rfl yt_X6_hasShoal_17)))))))))))))))))
def f_X6_hasShoal : yFn := fun n ys h => (fun n => xp_X6_hasShoal n) n (yar 0 ([100017, 0].zip ys)) [] h
theorem m_X6_hasShoal (l : Launch) : yMet zkds vwCl zTW zKP l (yX6_hasShoal, cX6_hasShoal, 2, (some .boolean)) 0 0 [100017, 0] (yF 0 f_X6_hasShoal) := y_metF zkp_ok zTW_good (yX6_hasShoal, cX6_hasShoal, 2, (some .boolean)) 0 0 [100017, 0] 0 (fun n => xp_X6_hasShoal n) (by decide +kernel) (by decide) (fun η D cy L Θ p e R s m args below meth c Q Qr n Z => s_X6_hasShoal (n := n) Z)
set_option maxRecDepth 100000 in
theorem e_X6_hasShoal {n : Nat} {x0 x1 : Int} {h : yH} : f_X6_hasShoal n [x0, x1] h = if x1 < 0 then (some (0, h)) else (if x1 < (h x0.toNat 6) then (some (1, h)) else (some (0, h))) := by rfl
set_option maxRecDepth 100000 in
theorem yq_X6_hasBoat : tables_1_4[31]? = some (.code yX6_hasBoat cX6_hasBoat 2 (some .boolean)) := rfl
theorem yw_X6_hasBoat : zMV yX6_hasBoat cX6_hasBoat 2 (some .boolean) 1 := ⟨⟨zTi_1 4 (by decide +kernel) rfl, zTi_4 31 yq_X6_hasBoat rfl, ⟨by decide, by decide⟩, by decide +kernel⟩, zTi_4 29 (by decide +kernel) rfl, zTi_4 30 (by decide +kernel) rfl⟩
theorem yt_X6_hasBoat_0 : decode cX6_hasBoat 0 = .ok (.iload_n 1, 1) := by decide +kernel
theorem yt_X6_hasBoat_1 : decode cX6_hasBoat 1 = .ok (.ifCond .lt 15, 3) := by decide +kernel
theorem yt_X6_hasBoat_16 : decode cX6_hasBoat 16 = .ok (.iconst 0, 1) := by decide +kernel
theorem yt_X6_hasBoat_17 : decode cX6_hasBoat 17 = .ok (.ireturn, 1) := by decide +kernel
theorem yt_X6_hasBoat_4 : decode cX6_hasBoat 4 = .ok (.iload_n 1, 1) := by decide +kernel
theorem yt_X6_hasBoat_5 : decode cX6_hasBoat 5 = .ok (.aload_n 0, 1) := by decide +kernel
theorem yt_X6_hasBoat_6 : decode cX6_hasBoat 6 = .ok (.getfield 52, 3) := by decide +kernel
theorem yt_X6_hasBoat_9 : decode cX6_hasBoat 9 = .ok (.if_icmp .ge 7, 3) := by decide +kernel
theorem yt_X6_hasBoat_12 : decode cX6_hasBoat 12 = .ok (.iconst 1, 1) := by decide +kernel
theorem yt_X6_hasBoat_13 : decode cX6_hasBoat 13 = .ok (.goto 4, 3) := by decide +kernel
def xp_X6_hasBoat (n : Nat) : yX := (xLd 1 0 (xLt0 (xCst 0 0 xRz) (xLd 1 0 (xLd 0 100017 (xGet 15 10 0 (xLt (xCst 0 1 xRz) (xCst 0 0 xRz)))))))
theorem s_X6_hasBoat {η : zRn} {D : va_G} {cy : Nat → ClassId} {L : List Nat} {Θ : Nat → Option Nat} {p : Program} {l : Launch} {e : Env} {R : Room} {s : State} {m : MethodId} {args : Array Value} {below : List Frame} {meth : Method} {c : Code} {Q : State → Prop} {Qr : yQt} {n : Nat} (Z : yCz η zkds D vwCl cy L Θ 2 p l e R s m args below meth c Q cX6_hasBoat (tyW cy) RX6 zTW zKP tyW (some .boolean) 0 0 Qr) : yGo η zkds D vwCl cy L Θ 2 p l e R s m args below meth c Q 0 (xw Qr 0 (xp_X6_hasBoat n)) := (yr_mono x_ld (yr_iload_n Z.1 rfl yt_X6_hasBoat_0 (yr_mono x_lt0 (yr_lt0 Z.1 yt_X6_hasBoat_1 (by first | decide | rfl) (yr_mono x_cst (yr_iconst Z.1 yt_X6_hasBoat_16 (by decide) (yr_mono x_rz (yr_rz Z rfl yt_X6_hasBoat_17)))) (yr_mono x_ld (yr_iload_n Z.1 rfl yt_X6_hasBoat_4 (yr_mono x_ld (yr_aload_n Z.1 rfl (by decide) yt_X6_hasBoat_5 (yr_mono x_get (yr_get (lo := 0) (hi := 6) Z.1 yf_RX6_52 (by decide +kernel) yt_X6_hasBoat_6 (yr_mono x_lt (yr_ge Z.1 yt_X6_hasBoat_9 (by first | decide | rfl) (yr_mono x_cst (yr_iconst Z.1 yt_X6_hasBoat_16 (by decide) (yr_mono x_rz (yr_rz Z rfl yt_X6_hasBoat_17)))) (yr_mono x_cst (yr_iconst Z.1 yt_X6_hasBoat_12 (by decide) (yr_goto Z.1 yt_X6_hasBoat_13 (by first | decide | rfl) (yr_mono x_rz (yr_rz Z rfl yt_X6_hasBoat_17)))))))))))))))))
def f_X6_hasBoat : yFn := fun n ys h => (fun n => xp_X6_hasBoat n) n (yar 0 ([100017, 0].zip ys)) [] h
theorem m_X6_hasBoat (l : Launch) : yMet zkds vwCl zTW zKP l (yX6_hasBoat, cX6_hasBoat, 2, (some .boolean)) 0 0 [100017, 0] (yF 0 f_X6_hasBoat) := y_metF zkp_ok zTW_good (yX6_hasBoat, cX6_hasBoat, 2, (some .boolean)) 0 0 [100017, 0] 0 (fun n => xp_X6_hasBoat n) (by decide +kernel) (by decide) (fun η D cy L Θ p e R s m args below meth c Q Qr n Z => s_X6_hasBoat (n := n) Z)
set_option maxRecDepth 100000 in
theorem e_X6_hasBoat {n : Nat} {x0 x1 : Int} {h : yH} : f_X6_hasBoat n [x0, x1] h = if x1 < 0 then (some (0, h)) else (if x1 < (h x0.toNat 10) then (some (1, h)) else (some (0, h))) := by rfl
set_option maxRecDepth 100000 in
theorem yq_X11_sea : tables_1_4[11]? = some (.code yX11_sea cX11_sea 4 (some .int)) := rfl
theorem yw_X11_sea : zMV yX11_sea cX11_sea 4 (some .int) 2 := ⟨⟨zTi_1 1 (by decide +kernel) rfl, zTi_4 11 yq_X11_sea rfl, ⟨by decide, by decide⟩, by decide +kernel⟩, zTi_4 9 (by decide +kernel) rfl, zTi_4 10 (by decide +kernel) rfl⟩
def dcl_cX11_sea_0 : List UInt8 := [0x2a, 0xb4, 0x00, 0x0a, 0x1b, 0xb6, 0x00, 0x5d, 0x4e, 0x2d, 0xc7, 0x00, 0x05, 0x02, 0xac, 0x1c, 0xaa, 0x00, 0x00, 0x00, 0x00, 0x00, 0x00, 0x4f, 0x00, 0x00, 0x00, 0x00, 0x00, 0x00, 0x00, 0x06, 0x00, 0x00, 0x00, 0x2c, 0x00, 0x00, 0x00, 0x31, 0x00, 0x00, 0x00, 0x36, 0x00, 0x00, 0x00, 0x3b, 0x00, 0x00, 0x00, 0x40, 0x00, 0x00, 0x00, 0x45, 0x00, 0x00, 0x00, 0x4a, 0x2d, 0xb4, 0x00, 0x61, 0xac, 0x2d]
theorem dcs_cX11_sea_0 : (cX11_sea.data.toList.drop 0).take 66 = dcl_cX11_sea_0 := by decide +kernel
theorem yt_X11_sea_0 : decode cX11_sea 0 = .ok (.aload_n 0, 1) := dcR 0 0 dcs_cX11_sea_0 (by decide +kernel)
theorem yt_X11_sea_1 : decode cX11_sea 1 = .ok (.getfield 10, 3) := dcR 0 1 dcs_cX11_sea_0 (by decide +kernel)
theorem yt_X11_sea_4 : decode cX11_sea 4 = .ok (.iload_n 1, 1) := dcR 0 4 dcs_cX11_sea_0 (by decide +kernel)
theorem yt_X11_sea_5 : decode cX11_sea 5 = .ok (.invokevirtual 93, 3) := dcR 0 5 dcs_cX11_sea_0 (by decide +kernel)
theorem yl_RX11_93 : Cond.methodLink RX11 93 yX9_findSea ∈ zTW := zTi_4 12 (by decide +kernel) rfl
theorem yt_X11_sea_8 : decode cX11_sea 8 = .ok (.astore_n 3, 1) := dcR 0 8 dcs_cX11_sea_0 (by decide +kernel)
theorem yt_X11_sea_9 : decode cX11_sea 9 = .ok (.aload_n 3, 1) := dcR 0 9 dcs_cX11_sea_0 (by decide +kernel)
theorem yt_X11_sea_10 : decode cX11_sea 10 = .ok (.ifnonnull 5, 3) := dcR 0 10 dcs_cX11_sea_0 (by decide +kernel)
theorem yt_X11_sea_15 : decode cX11_sea 15 = .ok (.iload_n 2, 1) := dcR 0 15 dcs_cX11_sea_0 (by decide +kernel)
theorem yt_X11_sea_16 : decode cX11_sea 16 = .ok (.tableswitch 79 0 6 #[44, 49, 54, 59, 64, 69, 74], 44) := by decide +kernel
theorem yt_X11_sea_60 : decode cX11_sea 60 = .ok (.aload_n 3, 1) := dcR 0 60 dcs_cX11_sea_0 (by decide +kernel)
theorem yt_X11_sea_61 : decode cX11_sea 61 = .ok (.getfield 97, 3) := dcR 0 61 dcs_cX11_sea_0 (by decide +kernel)
theorem yf_RX11_97 : zFok RX11 zTW vwCl (97, 6, 0, (some .int)) := ⟨RX6, TX6, 15, rfl, zx_6, by decide, zTi_1 61 (by decide +kernel) rfl, fun ty h => ⟨rfl, tyX6, tyX6_ok, nmX6, by cases h; rfl⟩⟩
def dcl_cX11_sea_1 : List UInt8 := [0xac, 0x2d, 0xb4, 0x00, 0x66, 0xac, 0x2d, 0xb4, 0x00, 0x69, 0xac, 0x2d, 0xb4, 0x00, 0x6c, 0xac, 0x2d, 0xb4, 0x00, 0x6f, 0xac, 0x2d, 0xb4, 0x00, 0x72, 0xac, 0x2d, 0xb4, 0x00, 0x75, 0xac, 0x1c, 0x10, 0x0a, 0xa1, 0x00, 0x09, 0x1c, 0x10, 0x16, 0xa1, 0x00, 0x07, 0x02, 0xa7, 0x00, 0x0c, 0x2d, 0xb4, 0x00, 0x78, 0x1c, 0x10, 0x0a, 0x64, 0x2e, 0xac]
theorem dcs_cX11_sea_1 : (cX11_sea.data.toList.drop 64).take 66 = dcl_cX11_sea_1 := by decide +kernel
theorem yt_X11_sea_64 : decode cX11_sea 64 = .ok (.ireturn, 1) := dcR 64 0 dcs_cX11_sea_1 (by decide +kernel)
theorem yt_X11_sea_65 : decode cX11_sea 65 = .ok (.aload_n 3, 1) := dcR 64 1 dcs_cX11_sea_1 (by decide +kernel)
theorem yt_X11_sea_66 : decode cX11_sea 66 = .ok (.getfield 102, 3) := dcR 64 2 dcs_cX11_sea_1 (by decide +kernel)
theorem yf_RX11_102 : zFok RX11 zTW vwCl (102, 6, 1, (some .int)) := ⟨RX6, TX6, 15, rfl, zx_6, by decide, zTi_1 64 (by decide +kernel) rfl, fun ty h => ⟨rfl, tyX6, tyX6_ok, nmX6, by cases h; rfl⟩⟩
theorem yt_X11_sea_69 : decode cX11_sea 69 = .ok (.ireturn, 1) := dcR 64 5 dcs_cX11_sea_1 (by decide +kernel)
theorem yt_X11_sea_70 : decode cX11_sea 70 = .ok (.aload_n 3, 1) := dcR 64 6 dcs_cX11_sea_1 (by decide +kernel)
theorem yt_X11_sea_71 : decode cX11_sea 71 = .ok (.getfield 105, 3) := dcR 64 7 dcs_cX11_sea_1 (by decide +kernel)
theorem yf_RX11_105 : zFok RX11 zTW vwCl (105, 6, 2, (some .int)) := ⟨RX6, TX6, 15, rfl, zx_6, by decide, zTi_1 67 (by decide +kernel) rfl, fun ty h => ⟨rfl, tyX6, tyX6_ok, nmX6, by cases h; rfl⟩⟩
theorem yt_X11_sea_74 : decode cX11_sea 74 = .ok (.ireturn, 1) := dcR 64 10 dcs_cX11_sea_1 (by decide +kernel)
theorem yt_X11_sea_75 : decode cX11_sea 75 = .ok (.aload_n 3, 1) := dcR 64 11 dcs_cX11_sea_1 (by decide +kernel)
theorem yt_X11_sea_76 : decode cX11_sea 76 = .ok (.getfield 108, 3) := dcR 64 12 dcs_cX11_sea_1 (by decide +kernel)
theorem yf_RX11_108 : zFok RX11 zTW vwCl (108, 6, 3, (some .int)) := ⟨RX6, TX6, 15, rfl, zx_6, by decide, zTi_1 71 (by decide +kernel) rfl, fun ty h => ⟨rfl, tyX6, tyX6_ok, nmX6, by cases h; rfl⟩⟩
theorem yt_X11_sea_79 : decode cX11_sea 79 = .ok (.ireturn, 1) := dcR 64 15 dcs_cX11_sea_1 (by decide +kernel)
theorem yt_X11_sea_80 : decode cX11_sea 80 = .ok (.aload_n 3, 1) := dcR 64 16 dcs_cX11_sea_1 (by decide +kernel)
theorem yt_X11_sea_81 : decode cX11_sea 81 = .ok (.getfield 111, 3) := dcR 64 17 dcs_cX11_sea_1 (by decide +kernel)
theorem yf_RX11_111 : zFok RX11 zTW vwCl (111, 6, 4, (some .int)) := ⟨RX6, TX6, 15, rfl, zx_6, by decide, zTi_1 75 (by decide +kernel) rfl, fun ty h => ⟨rfl, tyX6, tyX6_ok, nmX6, by cases h; rfl⟩⟩
theorem yt_X11_sea_84 : decode cX11_sea 84 = .ok (.ireturn, 1) := dcR 64 20 dcs_cX11_sea_1 (by decide +kernel)
theorem yt_X11_sea_85 : decode cX11_sea 85 = .ok (.aload_n 3, 1) := dcR 64 21 dcs_cX11_sea_1 (by decide +kernel)
theorem yt_X11_sea_86 : decode cX11_sea 86 = .ok (.getfield 114, 3) := dcR 64 22 dcs_cX11_sea_1 (by decide +kernel)
theorem yf_RX11_114 : zFok RX11 zTW vwCl (114, 6, 6, (some .int)) := ⟨RX6, TX6, 15, rfl, zx_6, by decide, zTi_1 84 (by decide +kernel) rfl, fun ty h => ⟨rfl, tyX6, tyX6_ok, nmX6, by cases h; rfl⟩⟩
theorem yt_X11_sea_89 : decode cX11_sea 89 = .ok (.ireturn, 1) := dcR 64 25 dcs_cX11_sea_1 (by decide +kernel)
theorem yt_X11_sea_90 : decode cX11_sea 90 = .ok (.aload_n 3, 1) := dcR 64 26 dcs_cX11_sea_1 (by decide +kernel)
theorem yt_X11_sea_91 : decode cX11_sea 91 = .ok (.getfield 117, 3) := dcR 64 27 dcs_cX11_sea_1 (by decide +kernel)
theorem yf_RX11_117 : zFok RX11 zTW vwCl (117, 6, 10, (some .int)) := ⟨RX6, TX6, 15, rfl, zx_6, by decide, zTi_1 100 (by decide +kernel) rfl, fun ty h => ⟨rfl, tyX6, tyX6_ok, nmX6, by cases h; rfl⟩⟩
theorem yt_X11_sea_94 : decode cX11_sea 94 = .ok (.ireturn, 1) := dcR 64 30 dcs_cX11_sea_1 (by decide +kernel)
theorem yt_X11_sea_95 : decode cX11_sea 95 = .ok (.iload_n 2, 1) := dcR 64 31 dcs_cX11_sea_1 (by decide +kernel)
theorem yt_X11_sea_96 : decode cX11_sea 96 = .ok (.bipush 10, 2) := dcR 64 32 dcs_cX11_sea_1 (by decide +kernel)
theorem yt_X11_sea_98 : decode cX11_sea 98 = .ok (.if_icmp .lt 9, 3) := dcR 64 34 dcs_cX11_sea_1 (by decide +kernel)
theorem yt_X11_sea_107 : decode cX11_sea 107 = .ok (.iconst (-1), 1) := dcR 64 43 dcs_cX11_sea_1 (by decide +kernel)
theorem yt_X11_sea_108 : decode cX11_sea 108 = .ok (.goto 12, 3) := dcR 64 44 dcs_cX11_sea_1 (by decide +kernel)
theorem yt_X11_sea_120 : decode cX11_sea 120 = .ok (.ireturn, 1) := by decide +kernel
theorem yt_X11_sea_101 : decode cX11_sea 101 = .ok (.iload_n 2, 1) := dcR 64 37 dcs_cX11_sea_1 (by decide +kernel)
theorem yt_X11_sea_102 : decode cX11_sea 102 = .ok (.bipush 22, 2) := dcR 64 38 dcs_cX11_sea_1 (by decide +kernel)
theorem yt_X11_sea_104 : decode cX11_sea 104 = .ok (.if_icmp .lt 7, 3) := dcR 64 40 dcs_cX11_sea_1 (by decide +kernel)
theorem yt_X11_sea_111 : decode cX11_sea 111 = .ok (.aload_n 3, 1) := dcR 64 47 dcs_cX11_sea_1 (by decide +kernel)
theorem yt_X11_sea_112 : decode cX11_sea 112 = .ok (.getfield 120, 3) := dcR 64 48 dcs_cX11_sea_1 (by decide +kernel)
theorem yf_RX11_120 : zFok RX11 zTW vwCl (120, 6, 5, none) := ⟨RX6, TX6, 15, rfl, zx_6, by decide, zTi_1 79 (by decide +kernel) rfl, fun _ h => by cases h⟩
theorem yt_X11_sea_115 : decode cX11_sea 115 = .ok (.iload_n 2, 1) := dcR 64 51 dcs_cX11_sea_1 (by decide +kernel)
theorem yt_X11_sea_116 : decode cX11_sea 116 = .ok (.bipush 10, 2) := dcR 64 52 dcs_cX11_sea_1 (by decide +kernel)
theorem yt_X11_sea_118 : decode cX11_sea 118 = .ok (.isub, 1) := dcR 64 54 dcs_cX11_sea_1 (by decide +kernel)
theorem yt_X11_sea_119 : decode cX11_sea 119 = .ok (.iaload, 1) := by decide +kernel
theorem yt_X11_sea_13 : decode cX11_sea 13 = .ok (.iconst (-1), 1) := dcR 0 13 dcs_cX11_sea_0 (by decide +kernel)
theorem yt_X11_sea_14 : decode cX11_sea 14 = .ok (.ireturn, 1) := dcR 0 14 dcs_cX11_sea_0 (by decide +kernel)
def xp_X11_sea (n : Nat) : yX := (xLd 0 100065 (xGetO 63 0 28 2 (xLd 1 0 (xCalR 2 [100030, 0] 17 (f_X9_findSea n) (xSt 3 17 (xLd 3 17 (xNull (xCst 0 (-1) xRi) (xLd 2 0 (xSw [(0, (xLd 3 17 (xNm 17 (xGet 15 0 0 xRi)))), (1, (xLd 3 17 (xNm 17 (xGet 15 1 0 xRi)))), (2, (xLd 3 17 (xNm 17 (xGet 15 2 0 xRi)))), (3, (xLd 3 17 (xNm 17 (xGet 15 3 0 xRi)))), (4, (xLd 3 17 (xNm 17 (xGet 15 4 0 xRi)))), (5, (xLd 3 17 (xNm 17 (xGet 15 6 0 xRi)))), (6, (xLd 3 17 (xNm 17 (xGet 15 10 0 xRi))))] (xLd 2 0 (xCst 0 10 (xLt (xCst 0 (-1) xRi) (xLd 2 0 (xCst 0 22 (xLt (xLd 3 17 (xNm 17 (xGetO 15 5 8 1 (xLd 2 0 (xCst 0 10 (xSub (xAld 8 12 xRi))))))) (xCst 0 (-1) xRi))))))))))))))))
theorem s_X11_sea {η : zRn} {D : va_G} {cy : Nat → ClassId} {L : List Nat} {Θ : Nat → Option Nat} {p : Program} {l : Launch} {e : Env} {R : Room} {s : State} {m : MethodId} {args : Array Value} {below : List Frame} {meth : Method} {c : Code} {Q : State → Prop} {Qr : yQt} {n : Nat} (Z : yCz η zkds D vwCl cy L Θ 4 p l e R s m args below meth c Q cX11_sea (tyW cy) RX11 zTW zKP tyW (some .int) 1 21 Qr) : yGo η zkds D vwCl cy L Θ 4 p l e R s m args below meth c Q 0 (xw Qr 0 (xp_X11_sea n)) := (yr_mono x_ld (yr_aload_n Z.1 rfl (by decide) yt_X11_sea_0 (yr_mono x_geto (yr_getP (lo := 0) (hi := 2147483647) Z.1 yf_RX11_10 (by decide +kernel) yt_X11_sea_1 (yr_mono x_ld (yr_iload_n Z.1 rfl yt_X11_sea_4 (yr_mono x_calR (yr_calR rfl (y_hrunV Z (y := (yX9_findSea, cX9_findSea, 2, (some (.object "ShoalClaims$Sea")))) (m_X9_findSea l) (ycv_of yw_X9_findSea 93 yt_X11_sea_5 yl_RX11_93 rfl (by decide) (by decide) ⟨28, _, _, _, _, rfl, zkd_28, rfl, rfl⟩)) (yr_mono x_st (yr_astore_n Z.1 rfl (by decide) (by decide) yt_X11_sea_8 (yr_mono x_ld (yr_aload_n Z.1 rfl (by decide) yt_X11_sea_9 (yr_mono x_null (yr_ifnonnull Z.1 yt_X11_sea_10 (by first | decide | rfl) (yr_mono x_ld (yr_iload_n Z.1 rfl yt_X11_sea_15 (yr_mono x_sw (yr_tsw (cs := [(0, 60, _), (1, 65, _), (2, 70, _), (3, 75, _), (4, 80, _), (5, 85, _), (6, 90, _)]) (td := 95) Z.1 yt_X11_sea_16 rfl rfl (yr_mono x_ld (yr_iload_n Z.1 rfl yt_X11_sea_95 (yr_mono x_cst (yr_bipush Z.1 yt_X11_sea_96 (by decide) (yr_mono x_lt (yr_lt Z.1 yt_X11_sea_98 (by first | decide | rfl) (yr_mono x_cst (yr_iconst Z.1 yt_X11_sea_107 (by decide) (yr_goto Z.1 yt_X11_sea_108 (by first | decide | rfl) (yr_mono x_ri (yr_ri Z rfl yt_X11_sea_120))))) (yr_mono x_ld (yr_iload_n Z.1 rfl yt_X11_sea_101 (yr_mono x_cst (yr_bipush Z.1 yt_X11_sea_102 (by decide) (yr_mono x_lt (yr_lt Z.1 yt_X11_sea_104 (by first | decide | rfl) (yr_mono x_ld (yr_aload_n Z.1 rfl (by decide) yt_X11_sea_111 (yr_mono (x_nm ⟨by decide, by decide⟩) (yr_nn (yr_mono x_geto (yr_getP (lo := 0) (hi := 2147483647) Z.1 yf_RX11_120 (by decide +kernel) yt_X11_sea_112 (yr_mono x_ld (yr_iload_n Z.1 rfl yt_X11_sea_115 (yr_mono x_cst (yr_bipush Z.1 yt_X11_sea_116 (by decide) (yr_mono x_sub (yr_sub Z.1 yt_X11_sea_118 (yr_mono x_ald (yr_iald (lo := (-2147483648)) (hi := 2147483647) Z.1 (by decide +kernel) yt_X11_sea_119 (yr_mono x_ri (yr_ri Z rfl yt_X11_sea_120)))))))))))))))) (yr_mono x_cst (yr_iconst Z.1 yt_X11_sea_107 (by decide) (yr_goto Z.1 yt_X11_sea_108 (by first | decide | rfl) (yr_mono x_ri (yr_ri Z rfl yt_X11_sea_120))))))))))))))))) (List.forall_mem_cons.mpr ⟨(yr_mono x_ld (yr_aload_n Z.1 rfl (by decide) yt_X11_sea_60 (yr_mono (x_nm ⟨by decide, by decide⟩) (yr_nn (yr_mono x_get (yr_get (lo := 0) (hi := 8) Z.1 yf_RX11_97 (by decide +kernel) yt_X11_sea_61 (yr_mono x_ri (yr_ri Z rfl yt_X11_sea_64)))))))), (List.forall_mem_cons.mpr ⟨(yr_mono x_ld (yr_aload_n Z.1 rfl (by decide) yt_X11_sea_65 (yr_mono (x_nm ⟨by decide, by decide⟩) (yr_nn (yr_mono x_get (yr_get (lo := 0) (hi := 8) Z.1 yf_RX11_102 (by decide +kernel) yt_X11_sea_66 (yr_mono x_ri (yr_ri Z rfl yt_X11_sea_69)))))))), (List.forall_mem_cons.mpr ⟨(yr_mono x_ld (yr_aload_n Z.1 rfl (by decide) yt_X11_sea_70 (yr_mono (x_nm ⟨by decide, by decide⟩) (yr_nn (yr_mono x_get (yr_get (lo := 0) (hi := 3) Z.1 yf_RX11_105 (by decide +kernel) yt_X11_sea_71 (yr_mono x_ri (yr_ri Z rfl yt_X11_sea_74)))))))), (List.forall_mem_cons.mpr ⟨(yr_mono x_ld (yr_aload_n Z.1 rfl (by decide) yt_X11_sea_75 (yr_mono (x_nm ⟨by decide, by decide⟩) (yr_nn (yr_mono x_get (yr_get (lo := (-2147483648)) (hi := 2147483647) Z.1 yf_RX11_108 (by decide +kernel) yt_X11_sea_76 (yr_mono x_ri (yr_ri Z rfl yt_X11_sea_79)))))))), (List.forall_mem_cons.mpr ⟨(yr_mono x_ld (yr_aload_n Z.1 rfl (by decide) yt_X11_sea_80 (yr_mono (x_nm ⟨by decide, by decide⟩) (yr_nn (yr_mono x_get (yr_get (lo := (-2147483648)) (hi := 2147483647) Z.1 yf_RX11_111 (by decide +kernel) yt_X11_sea_81 (yr_mono x_ri (yr_ri Z rfl yt_X11_sea_84)))))))), (List.forall_mem_cons.mpr ⟨(yr_mono x_ld (yr_aload_n Z.1 rfl (by decide) yt_X11_sea_85 (yr_mono (x_nm ⟨by decide, by decide⟩) (yr_nn (yr_mono x_get (yr_get (lo := 0) (hi := 4) Z.1 yf_RX11_114 (by decide +kernel) yt_X11_sea_86 (yr_mono x_ri (yr_ri Z rfl yt_X11_sea_89)))))))), (List.forall_mem_cons.mpr ⟨(yr_mono x_ld (yr_aload_n Z.1 rfl (by decide) yt_X11_sea_90 (yr_mono (x_nm ⟨by decide, by decide⟩) (yr_nn (yr_mono x_get (yr_get (lo := 0) (hi := 6) Z.1 yf_RX11_117 (by decide +kernel) yt_X11_sea_91 (yr_mono x_ri (yr_ri Z rfl yt_X11_sea_94)))))))), (List.forall_mem_nil _)⟩)⟩)⟩)⟩)⟩)⟩)⟩))))) (yr_mono x_cst (yr_iconst Z.1 yt_X11_sea_13 (by decide) (yr_mono x_ri (yr_ri Z rfl yt_X11_sea_14))))))))))))))))))
def f_X11_sea : yFn := fun n ys h => (fun n => xp_X11_sea n) n (yar 0 ([100065, 0, 0].zip ys)) [] h
theorem m_X11_sea (l : Launch) : yMet zkds vwCl zTW zKP l (yX11_sea, cX11_sea, 4, (some .int)) 1 21 [100065, 0, 0] (yF 0 f_X11_sea) := y_metF zkp_ok zTW_good (yX11_sea, cX11_sea, 4, (some .int)) 1 21 [100065, 0, 0] 0 (fun n => xp_X11_sea n) (by decide +kernel) (by decide) (fun η D cy L Θ p e R s m args below meth c Q Qr n Z => s_X11_sea (n := n) Z)
set_option maxRecDepth 100000 in
theorem e_X11_sea {n : Nat} {x1 x2 : Int} {h : yH} : f_X11_sea n [1, x1, x2] h = xg (h 1 0 = 3) (xb (f_X9_findSea n [3, x1] h) (fun v1 h1 => if v1 < 0 then (some ((-1), h1)) else (if x2 = 0 then (xg (0 ≤ v1) (some ((h1 v1.toNat 0), h1))) else (if x2 = 1 then (xg (0 ≤ v1) (some ((h1 v1.toNat 1), h1))) else (if x2 = 2 then (xg (0 ≤ v1) (some ((h1 v1.toNat 2), h1))) else (if x2 = 3 then (xg (0 ≤ v1) (some ((h1 v1.toNat 3), h1))) else (if x2 = 4 then (xg (0 ≤ v1) (some ((h1 v1.toNat 4), h1))) else (if x2 = 5 then (xg (0 ≤ v1) (some ((h1 v1.toNat 6), h1))) else (if x2 = 6 then (xg (0 ≤ v1) (some ((h1 v1.toNat 10), h1))) else (if x2 < 10 then (some ((-1), h1)) else (if x2 < 22 then (xg (0 ≤ v1) (xg (h1 v1.toNat 5 = (v1 + 1)) (xg (-2147483648 ≤ x2 - 10 ∧ x2 - 10 ≤ 2147483647) (xg (0 ≤ (x2 - 10) ∧ (x2 - 10) < 12) (some ((h1 (v1 + 1).toNat (x2 - 10).toNat), h1)))))) else (some ((-1), h1))))))))))))) := by rfl
set_option maxRecDepth 100000 in
theorem yq_X11_shoal : tables_1_4[19]? = some (.code yX11_shoal cX11_shoal 5 (some .int)) := rfl
theorem yw_X11_shoal : zMV yX11_shoal cX11_shoal 5 (some .int) 3 := ⟨⟨zTi_1 1 (by decide +kernel) rfl, zTi_4 19 yq_X11_shoal rfl, ⟨by decide, by decide⟩, by decide +kernel⟩, zTi_4 17 (by decide +kernel) rfl, zTi_4 18 (by decide +kernel) rfl⟩
theorem yt_X11_shoal_0 : decode cX11_shoal 0 = .ok (.aload_n 0, 1) := by decide +kernel
theorem yt_X11_shoal_1 : decode cX11_shoal 1 = .ok (.getfield 10, 3) := by decide +kernel
theorem yt_X11_shoal_4 : decode cX11_shoal 4 = .ok (.iload_n 1, 1) := by decide +kernel
theorem yt_X11_shoal_5 : decode cX11_shoal 5 = .ok (.invokevirtual 93, 3) := by decide +kernel
theorem yt_X11_shoal_8 : decode cX11_shoal 8 = .ok (.astore 4, 2) := by decide +kernel
theorem yt_X11_shoal_10 : decode cX11_shoal 10 = .ok (.aload 4, 2) := by decide +kernel
theorem yt_X11_shoal_12 : decode cX11_shoal 12 = .ok (.ifnull 12, 3) := by decide +kernel
theorem yt_X11_shoal_24 : decode cX11_shoal 24 = .ok (.iconst (-1), 1) := by decide +kernel
theorem yt_X11_shoal_25 : decode cX11_shoal 25 = .ok (.ireturn, 1) := by decide +kernel
theorem yt_X11_shoal_15 : decode cX11_shoal 15 = .ok (.aload 4, 2) := by decide +kernel
theorem yt_X11_shoal_17 : decode cX11_shoal 17 = .ok (.iload_n 2, 1) := by decide +kernel
theorem yt_X11_shoal_18 : decode cX11_shoal 18 = .ok (.invokevirtual 124, 3) := by decide +kernel
theorem yl_RX11_124 : Cond.methodLink RX11 124 yX6_hasShoal ∈ zTW := zTi_4 20 (by decide +kernel) rfl
theorem yt_X11_shoal_21 : decode cX11_shoal 21 = .ok (.ifCond .ne 5, 3) := by decide +kernel
theorem yt_X11_shoal_26 : decode cX11_shoal 26 = .ok (.iload_n 3, 1) := by decide +kernel
theorem yt_X11_shoal_27 : decode cX11_shoal 27 = .ok (.tableswitch 49 0 2 #[25, 33, 41], 25) := by decide +kernel
theorem yt_X11_shoal_52 : decode cX11_shoal 52 = .ok (.aload 4, 2) := by decide +kernel
theorem yt_X11_shoal_54 : decode cX11_shoal 54 = .ok (.getfield 128, 3) := by decide +kernel
theorem yf_RX11_128 : zFok RX11 zTW vwCl (128, 6, 7, none) := ⟨RX6, TX6, 15, rfl, zx_6, by decide, zTi_1 89 (by decide +kernel) rfl, fun _ h => by cases h⟩
theorem yt_X11_shoal_57 : decode cX11_shoal 57 = .ok (.iload_n 2, 1) := by decide +kernel
theorem yt_X11_shoal_58 : decode cX11_shoal 58 = .ok (.iaload, 1) := by decide +kernel
theorem yt_X11_shoal_59 : decode cX11_shoal 59 = .ok (.ireturn, 1) := by decide +kernel
theorem yt_X11_shoal_60 : decode cX11_shoal 60 = .ok (.aload 4, 2) := by decide +kernel
theorem yt_X11_shoal_62 : decode cX11_shoal 62 = .ok (.getfield 131, 3) := by decide +kernel
theorem yf_RX11_131 : zFok RX11 zTW vwCl (131, 6, 8, none) := ⟨RX6, TX6, 15, rfl, zx_6, by decide, zTi_1 93 (by decide +kernel) rfl, fun _ h => by cases h⟩
theorem yt_X11_shoal_65 : decode cX11_shoal 65 = .ok (.iload_n 2, 1) := by decide +kernel
theorem yt_X11_shoal_66 : decode cX11_shoal 66 = .ok (.iaload, 1) := by decide +kernel
theorem yt_X11_shoal_67 : decode cX11_shoal 67 = .ok (.ireturn, 1) := by decide +kernel
theorem yt_X11_shoal_68 : decode cX11_shoal 68 = .ok (.aload 4, 2) := by decide +kernel
theorem yt_X11_shoal_70 : decode cX11_shoal 70 = .ok (.getfield 134, 3) := by decide +kernel
theorem yf_RX11_134 : zFok RX11 zTW vwCl (134, 6, 9, none) := ⟨RX6, TX6, 15, rfl, zx_6, by decide, zTi_1 97 (by decide +kernel) rfl, fun _ h => by cases h⟩
theorem yt_X11_shoal_73 : decode cX11_shoal 73 = .ok (.iload_n 2, 1) := by decide +kernel
theorem yt_X11_shoal_74 : decode cX11_shoal 74 = .ok (.iaload, 1) := by decide +kernel
theorem yt_X11_shoal_75 : decode cX11_shoal 75 = .ok (.ireturn, 1) := by decide +kernel
theorem yt_X11_shoal_76 : decode cX11_shoal 76 = .ok (.iconst (-1), 1) := by decide +kernel
theorem yt_X11_shoal_77 : decode cX11_shoal 77 = .ok (.ireturn, 1) := by decide +kernel
def xp_X11_shoal (n : Nat) : yX := (xLd 0 100065 (xGetO 63 0 28 2 (xLd 1 0 (xCalR 2 [100030, 0] 17 (f_X9_findSea n) (xSt 4 17 (xLd 4 17 (xNull (xCst 0 (-1) xRi) (xLd 4 17 (xNm 17 (xLd 2 0 (xCalR 2 [100017, 0] 0 (f_X6_hasShoal n) (xEq0 (xCst 0 (-1) xRi) (xLd 3 0 (xSw [(0, (xLd 4 17 (xNm 17 (xGetO 15 7 9 2 (xLd 2 0 (xAld 9 4 xRi)))))), (1, (xLd 4 17 (xNm 17 (xGetO 15 8 10 3 (xLd 2 0 (xAld 10 4 xRi)))))), (2, (xLd 4 17 (xNm 17 (xGetO 15 9 11 4 (xLd 2 0 (xAld 11 4 xRi))))))] (xCst 0 (-1) xRi)))))))))))))))
theorem s_X11_shoal {η : zRn} {D : va_G} {cy : Nat → ClassId} {L : List Nat} {Θ : Nat → Option Nat} {p : Program} {l : Launch} {e : Env} {R : Room} {s : State} {m : MethodId} {args : Array Value} {below : List Frame} {meth : Method} {c : Code} {Q : State → Prop} {Qr : yQt} {n : Nat} (Z : yCz η zkds D vwCl cy L Θ 5 p l e R s m args below meth c Q cX11_shoal (tyW cy) RX11 zTW zKP tyW (some .int) 1 21 Qr) : yGo η zkds D vwCl cy L Θ 5 p l e R s m args below meth c Q 0 (xw Qr 0 (xp_X11_shoal n)) := (yr_mono x_ld (yr_aload_n Z.1 rfl (by decide) yt_X11_shoal_0 (yr_mono x_geto (yr_getP (lo := 0) (hi := 2147483647) Z.1 yf_RX11_10 (by decide +kernel) yt_X11_shoal_1 (yr_mono x_ld (yr_iload_n Z.1 rfl yt_X11_shoal_4 (yr_mono x_calR (yr_calR rfl (y_hrunV Z (y := (yX9_findSea, cX9_findSea, 2, (some (.object "ShoalClaims$Sea")))) (m_X9_findSea l) (ycv_of yw_X9_findSea 93 yt_X11_shoal_5 yl_RX11_93 rfl (by decide) (by decide) ⟨28, _, _, _, _, rfl, zkd_28, rfl, rfl⟩)) (yr_mono x_st (yr_astore Z.1 (by decide) (by decide) yt_X11_shoal_8 (yr_mono x_ld (yr_aload Z.1 (by decide) yt_X11_shoal_10 (yr_mono x_null (yr_ifnull Z.1 yt_X11_shoal_12 (by first | decide | rfl) (yr_mono x_cst (yr_iconst Z.1 yt_X11_shoal_24 (by decide) (yr_mono x_ri (yr_ri Z rfl yt_X11_shoal_25)))) (yr_mono x_ld (yr_aload Z.1 (by decide) yt_X11_shoal_15 (yr_mono (x_nm ⟨by decide, by decide⟩) (yr_nn (yr_mono x_ld (yr_iload_n Z.1 rfl yt_X11_shoal_17 (yr_mono x_calR (yr_calR rfl (y_hrunV Z (y := (yX6_hasShoal, cX6_hasShoal, 2, (some .boolean))) (m_X6_hasShoal l) (ycv_of yw_X6_hasShoal 124 yt_X11_shoal_18 yl_RX11_124 rfl (by decide) (by decide) ⟨15, _, _, _, _, rfl, zkd_15, rfl, rfl⟩)) (yr_mono x_eq0 (yr_ne0 Z.1 yt_X11_shoal_21 (by first | decide | rfl) (yr_mono x_ld (yr_iload_n Z.1 rfl yt_X11_shoal_26 (yr_mono x_sw (yr_tsw (cs := [(0, 52, _), (1, 60, _), (2, 68, _)]) (td := 76) Z.1 yt_X11_shoal_27 rfl rfl (yr_mono x_cst (yr_iconst Z.1 yt_X11_shoal_76 (by decide) (yr_mono x_ri (yr_ri Z rfl yt_X11_shoal_77)))) (List.forall_mem_cons.mpr ⟨(yr_mono x_ld (yr_aload Z.1 (by decide) yt_X11_shoal_52 (yr_mono (x_nm ⟨by decide, by decide⟩) (yr_nn (yr_mono x_geto (yr_getP (lo := 0) (hi := 2147483647) Z.1 yf_RX11_128 (by decide +kernel) yt_X11_shoal_54 (yr_mono x_ld (yr_iload_n Z.1 rfl yt_X11_shoal_57 (yr_mono x_ald (yr_iald (lo := (-2147483648)) (hi := 2147483647) Z.1 (by decide +kernel) yt_X11_shoal_58 (yr_mono x_ri (yr_ri Z rfl yt_X11_shoal_59)))))))))))), (List.forall_mem_cons.mpr ⟨(yr_mono x_ld (yr_aload Z.1 (by decide) yt_X11_shoal_60 (yr_mono (x_nm ⟨by decide, by decide⟩) (yr_nn (yr_mono x_geto (yr_getP (lo := 0) (hi := 2147483647) Z.1 yf_RX11_131 (by decide +kernel) yt_X11_shoal_62 (yr_mono x_ld (yr_iload_n Z.1 rfl yt_X11_shoal_65 (yr_mono x_ald (yr_iald (lo := (-2147483648)) (hi := 2147483647) Z.1 (by decide +kernel) yt_X11_shoal_66 (yr_mono x_ri (yr_ri Z rfl yt_X11_shoal_67)))))))))))), (List.forall_mem_cons.mpr ⟨(yr_mono x_ld (yr_aload Z.1 (by decide) yt_X11_shoal_68 (yr_mono (x_nm ⟨by decide, by decide⟩) (yr_nn (yr_mono x_geto (yr_getP (lo := 0) (hi := 2147483647) Z.1 yf_RX11_134 (by decide +kernel) yt_X11_shoal_70 (yr_mono x_ld (yr_iload_n Z.1 rfl yt_X11_shoal_73 (yr_mono x_ald (yr_iald (lo := (-2147483648)) (hi := 2147483647) Z.1 (by decide +kernel) yt_X11_shoal_74 (yr_mono x_ri (yr_ri Z rfl yt_X11_shoal_75)))))))))))), (List.forall_mem_nil _)⟩)⟩)⟩))))) (yr_mono x_cst (yr_iconst Z.1 yt_X11_shoal_24 (by decide) (yr_mono x_ri (yr_ri Z rfl yt_X11_shoal_25))))))))))))))))))))))))))))
def f_X11_shoal : yFn := fun n ys h => (fun n => xp_X11_shoal n) n (yar 0 ([100065, 0, 0, 0].zip ys)) [] h
theorem m_X11_shoal (l : Launch) : yMet zkds vwCl zTW zKP l (yX11_shoal, cX11_shoal, 5, (some .int)) 1 21 [100065, 0, 0, 0] (yF 0 f_X11_shoal) := y_metF zkp_ok zTW_good (yX11_shoal, cX11_shoal, 5, (some .int)) 1 21 [100065, 0, 0, 0] 0 (fun n => xp_X11_shoal n) (by decide +kernel) (by decide) (fun η D cy L Θ p e R s m args below meth c Q Qr n Z => s_X11_shoal (n := n) Z)
set_option maxRecDepth 100000 in
theorem e_X11_shoal {n : Nat} {x1 x2 x3 : Int} {h : yH} : f_X11_shoal n [1, x1, x2, x3] h = xg (h 1 0 = 3) (xb (f_X9_findSea n [3, x1] h) (fun v1 h1 => if v1 < 0 then (some ((-1), h1)) else (xg (0 ≤ v1) (xb (f_X6_hasShoal n [v1, x2] h1) (fun v2 h2 => if v2 = 0 then (some ((-1), h2)) else (if x3 = 0 then (xg (0 ≤ v1) (xg (h2 v1.toNat 7 = (v1 + 2)) (xg (0 ≤ x2 ∧ x2 < 4) (some ((h2 (v1 + 2).toNat x2.toNat), h2))))) else (if x3 = 1 then (xg (0 ≤ v1) (xg (h2 v1.toNat 8 = (v1 + 3)) (xg (0 ≤ x2 ∧ x2 < 4) (some ((h2 (v1 + 3).toNat x2.toNat), h2))))) else (if x3 = 2 then (xg (0 ≤ v1) (xg (h2 v1.toNat 9 = (v1 + 4)) (xg (0 ≤ x2 ∧ x2 < 4) (some ((h2 (v1 + 4).toNat x2.toNat), h2))))) else (some ((-1), h2)))))))))) := by rfl
set_option maxRecDepth 100000 in
theorem yq_X11_boat : tables_1_4[27]? = some (.code yX11_boat cX11_boat 5 (some .int)) := rfl
theorem yw_X11_boat : zMV yX11_boat cX11_boat 5 (some .int) 3 := ⟨⟨zTi_1 1 (by decide +kernel) rfl, zTi_4 27 yq_X11_boat rfl, ⟨by decide, by decide⟩, by decide +kernel⟩, zTi_4 25 (by decide +kernel) rfl, zTi_4 26 (by decide +kernel) rfl⟩
theorem yt_X11_boat_0 : decode cX11_boat 0 = .ok (.aload_n 0, 1) := by decide +kernel
theorem yt_X11_boat_1 : decode cX11_boat 1 = .ok (.getfield 10, 3) := by decide +kernel
theorem yt_X11_boat_4 : decode cX11_boat 4 = .ok (.iload_n 1, 1) := by decide +kernel
theorem yt_X11_boat_5 : decode cX11_boat 5 = .ok (.invokevirtual 93, 3) := by decide +kernel
theorem yt_X11_boat_8 : decode cX11_boat 8 = .ok (.astore 4, 2) := by decide +kernel
theorem yt_X11_boat_10 : decode cX11_boat 10 = .ok (.aload 4, 2) := by decide +kernel
theorem yt_X11_boat_12 : decode cX11_boat 12 = .ok (.ifnull 12, 3) := by decide +kernel
theorem yt_X11_boat_24 : decode cX11_boat 24 = .ok (.iconst (-1), 1) := by decide +kernel
theorem yt_X11_boat_25 : decode cX11_boat 25 = .ok (.ireturn, 1) := by decide +kernel
theorem yt_X11_boat_15 : decode cX11_boat 15 = .ok (.aload 4, 2) := by decide +kernel
theorem yt_X11_boat_17 : decode cX11_boat 17 = .ok (.iload_n 2, 1) := by decide +kernel
theorem yt_X11_boat_18 : decode cX11_boat 18 = .ok (.invokevirtual 137, 3) := by decide +kernel
theorem yl_RX11_137 : Cond.methodLink RX11 137 yX6_hasBoat ∈ zTW := zTi_4 28 (by decide +kernel) rfl
theorem yt_X11_boat_21 : decode cX11_boat 21 = .ok (.ifCond .ne 5, 3) := by decide +kernel
theorem yt_X11_boat_26 : decode cX11_boat 26 = .ok (.iload_n 3, 1) := by decide +kernel
theorem yt_X11_boat_27 : decode cX11_boat 27 = .ok (.tableswitch 63 0 3 #[29, 37, 45, 53], 29) := by decide +kernel
theorem yt_X11_boat_56 : decode cX11_boat 56 = .ok (.aload 4, 2) := by decide +kernel
theorem yt_X11_boat_58 : decode cX11_boat 58 = .ok (.getfield 140, 3) := by decide +kernel
theorem yf_RX11_140 : zFok RX11 zTW vwCl (140, 6, 11, none) := ⟨RX6, TX6, 15, rfl, zx_6, by decide, zTi_1 107 (by decide +kernel) rfl, fun _ h => by cases h⟩
theorem yt_X11_boat_61 : decode cX11_boat 61 = .ok (.iload_n 2, 1) := by decide +kernel
theorem yt_X11_boat_62 : decode cX11_boat 62 = .ok (.iaload, 1) := by decide +kernel
theorem yt_X11_boat_63 : decode cX11_boat 63 = .ok (.ireturn, 1) := by decide +kernel
theorem yt_X11_boat_64 : decode cX11_boat 64 = .ok (.aload 4, 2) := by decide +kernel
theorem yt_X11_boat_66 : decode cX11_boat 66 = .ok (.getfield 143, 3) := by decide +kernel
theorem yf_RX11_143 : zFok RX11 zTW vwCl (143, 6, 12, none) := ⟨RX6, TX6, 15, rfl, zx_6, by decide, zTi_1 111 (by decide +kernel) rfl, fun _ h => by cases h⟩
theorem yt_X11_boat_69 : decode cX11_boat 69 = .ok (.iload_n 2, 1) := by decide +kernel
theorem yt_X11_boat_70 : decode cX11_boat 70 = .ok (.iaload, 1) := by decide +kernel
theorem yt_X11_boat_71 : decode cX11_boat 71 = .ok (.ireturn, 1) := by decide +kernel
theorem yt_X11_boat_72 : decode cX11_boat 72 = .ok (.aload 4, 2) := by decide +kernel
theorem yt_X11_boat_74 : decode cX11_boat 74 = .ok (.getfield 146, 3) := by decide +kernel
theorem yf_RX11_146 : zFok RX11 zTW vwCl (146, 6, 13, none) := ⟨RX6, TX6, 15, rfl, zx_6, by decide, zTi_1 113 (by decide +kernel) rfl, fun _ h => by cases h⟩
theorem yt_X11_boat_77 : decode cX11_boat 77 = .ok (.iload_n 2, 1) := by decide +kernel
theorem yt_X11_boat_78 : decode cX11_boat 78 = .ok (.iaload, 1) := by decide +kernel
theorem yt_X11_boat_79 : decode cX11_boat 79 = .ok (.ireturn, 1) := by decide +kernel
theorem yt_X11_boat_80 : decode cX11_boat 80 = .ok (.aload 4, 2) := by decide +kernel
theorem yt_X11_boat_82 : decode cX11_boat 82 = .ok (.getfield 149, 3) := by decide +kernel
theorem yf_RX11_149 : zFok RX11 zTW vwCl (149, 6, 14, (some .int)) := ⟨RX6, TX6, 15, rfl, zx_6, by decide, zTi_1 117 (by decide +kernel) rfl, fun ty h => ⟨rfl, tyX6, tyX6_ok, nmX6, by cases h; rfl⟩⟩
theorem yt_X11_boat_85 : decode cX11_boat 85 = .ok (.iload_n 2, 1) := by decide +kernel
theorem yt_X11_boat_86 : decode cX11_boat 86 = .ok (.ishr, 1) := by decide +kernel
theorem yt_X11_boat_87 : decode cX11_boat 87 = .ok (.iconst 1, 1) := by decide +kernel
theorem yt_X11_boat_88 : decode cX11_boat 88 = .ok (.iand, 1) := by decide +kernel
theorem yt_X11_boat_89 : decode cX11_boat 89 = .ok (.ireturn, 1) := by decide +kernel
theorem yt_X11_boat_90 : decode cX11_boat 90 = .ok (.iconst (-1), 1) := by decide +kernel
theorem yt_X11_boat_91 : decode cX11_boat 91 = .ok (.ireturn, 1) := by decide +kernel
def xp_X11_boat (n : Nat) : yX := (xLd 0 100065 (xGetO 63 0 28 2 (xLd 1 0 (xCalR 2 [100030, 0] 17 (f_X9_findSea n) (xSt 4 17 (xLd 4 17 (xNull (xCst 0 (-1) xRi) (xLd 4 17 (xNm 17 (xLd 2 0 (xCalR 2 [100017, 0] 0 (f_X6_hasBoat n) (xEq0 (xCst 0 (-1) xRi) (xLd 3 0 (xSw [(0, (xLd 4 17 (xNm 17 (xGetO 15 11 12 5 (xLd 2 0 (xAld 12 6 xRi)))))), (1, (xLd 4 17 (xNm 17 (xGetO 15 12 13 6 (xLd 2 0 (xAld 13 6 xRi)))))), (2, (xLd 4 17 (xNm 17 (xGetO 15 13 14 7 (xLd 2 0 (xAld 14 6 xRi)))))), (3, (xLd 4 17 (xNm 17 (xGet 15 14 0 (xLd 2 0 (xAri 6 (xCst 0 1 (xAri 7 xRi))))))))] (xCst 0 (-1) xRi)))))))))))))))
theorem s_X11_boat {η : zRn} {D : va_G} {cy : Nat → ClassId} {L : List Nat} {Θ : Nat → Option Nat} {p : Program} {l : Launch} {e : Env} {R : Room} {s : State} {m : MethodId} {args : Array Value} {below : List Frame} {meth : Method} {c : Code} {Q : State → Prop} {Qr : yQt} {n : Nat} (Z : yCz η zkds D vwCl cy L Θ 5 p l e R s m args below meth c Q cX11_boat (tyW cy) RX11 zTW zKP tyW (some .int) 1 21 Qr) : yGo η zkds D vwCl cy L Θ 5 p l e R s m args below meth c Q 0 (xw Qr 0 (xp_X11_boat n)) := (yr_mono x_ld (yr_aload_n Z.1 rfl (by decide) yt_X11_boat_0 (yr_mono x_geto (yr_getP (lo := 0) (hi := 2147483647) Z.1 yf_RX11_10 (by decide +kernel) yt_X11_boat_1 (yr_mono x_ld (yr_iload_n Z.1 rfl yt_X11_boat_4 (yr_mono x_calR (yr_calR rfl (y_hrunV Z (y := (yX9_findSea, cX9_findSea, 2, (some (.object "ShoalClaims$Sea")))) (m_X9_findSea l) (ycv_of yw_X9_findSea 93 yt_X11_boat_5 yl_RX11_93 rfl (by decide) (by decide) ⟨28, _, _, _, _, rfl, zkd_28, rfl, rfl⟩)) (yr_mono x_st (yr_astore Z.1 (by decide) (by decide) yt_X11_boat_8 (yr_mono x_ld (yr_aload Z.1 (by decide) yt_X11_boat_10 (yr_mono x_null (yr_ifnull Z.1 yt_X11_boat_12 (by first | decide | rfl) (yr_mono x_cst (yr_iconst Z.1 yt_X11_boat_24 (by decide) (yr_mono x_ri (yr_ri Z rfl yt_X11_boat_25)))) (yr_mono x_ld (yr_aload Z.1 (by decide) yt_X11_boat_15 (yr_mono (x_nm ⟨by decide, by decide⟩) (yr_nn (yr_mono x_ld (yr_iload_n Z.1 rfl yt_X11_boat_17 (yr_mono x_calR (yr_calR rfl (y_hrunV Z (y := (yX6_hasBoat, cX6_hasBoat, 2, (some .boolean))) (m_X6_hasBoat l) (ycv_of yw_X6_hasBoat 137 yt_X11_boat_18 yl_RX11_137 rfl (by decide) (by decide) ⟨15, _, _, _, _, rfl, zkd_15, rfl, rfl⟩)) (yr_mono x_eq0 (yr_ne0 Z.1 yt_X11_boat_21 (by first | decide | rfl) (yr_mono x_ld (yr_iload_n Z.1 rfl yt_X11_boat_26 (yr_mono x_sw (yr_tsw (cs := [(0, 56, _), (1, 64, _), (2, 72, _), (3, 80, _)]) (td := 90) Z.1 yt_X11_boat_27 rfl rfl (yr_mono x_cst (yr_iconst Z.1 yt_X11_boat_90 (by decide) (yr_mono x_ri (yr_ri Z rfl yt_X11_boat_91)))) (List.forall_mem_cons.mpr ⟨(yr_mono x_ld (yr_aload Z.1 (by decide) yt_X11_boat_56 (yr_mono (x_nm ⟨by decide, by decide⟩) (yr_nn (yr_mono x_geto (yr_getP (lo := 0) (hi := 2147483647) Z.1 yf_RX11_140 (by decide +kernel) yt_X11_boat_58 (yr_mono x_ld (yr_iload_n Z.1 rfl yt_X11_boat_61 (yr_mono x_ald (yr_iald (lo := (-2147483648)) (hi := 2147483647) Z.1 (by decide +kernel) yt_X11_boat_62 (yr_mono x_ri (yr_ri Z rfl yt_X11_boat_63)))))))))))), (List.forall_mem_cons.mpr ⟨(yr_mono x_ld (yr_aload Z.1 (by decide) yt_X11_boat_64 (yr_mono (x_nm ⟨by decide, by decide⟩) (yr_nn (yr_mono x_geto (yr_getP (lo := 0) (hi := 2147483647) Z.1 yf_RX11_143 (by decide +kernel) yt_X11_boat_66 (yr_mono x_ld (yr_iload_n Z.1 rfl yt_X11_boat_69 (yr_mono x_ald (yr_iald (lo := (-2147483648)) (hi := 2147483647) Z.1 (by decide +kernel) yt_X11_boat_70 (yr_mono x_ri (yr_ri Z rfl yt_X11_boat_71)))))))))))), (List.forall_mem_cons.mpr ⟨(yr_mono x_ld (yr_aload Z.1 (by decide) yt_X11_boat_72 (yr_mono (x_nm ⟨by decide, by decide⟩) (yr_nn (yr_mono x_geto (yr_getP (lo := 0) (hi := 2147483647) Z.1 yf_RX11_146 (by decide +kernel) yt_X11_boat_74 (yr_mono x_ld (yr_iload_n Z.1 rfl yt_X11_boat_77 (yr_mono x_ald (yr_iald (lo := 0) (hi := 2) Z.1 (by decide +kernel) yt_X11_boat_78 (yr_mono x_ri (yr_ri Z rfl yt_X11_boat_79)))))))))))), (List.forall_mem_cons.mpr ⟨(yr_mono x_ld (yr_aload Z.1 (by decide) yt_X11_boat_80 (yr_mono (x_nm ⟨by decide, by decide⟩) (yr_nn (yr_mono x_get (yr_get (lo := (-2147483648)) (hi := 2147483647) Z.1 yf_RX11_149 (by decide +kernel) yt_X11_boat_82 (yr_mono x_ld (yr_iload_n Z.1 rfl yt_X11_boat_85 (yr_mono x_ari (yr_shr Z.1 yt_X11_boat_86 (yr_mono x_cst (yr_iconst Z.1 yt_X11_boat_87 (by decide) (yr_mono x_ari (yr_and Z.1 yt_X11_boat_88 (yr_mono x_ri (yr_ri Z rfl yt_X11_boat_89)))))))))))))))), (List.forall_mem_nil _)⟩)⟩)⟩)⟩))))) (yr_mono x_cst (yr_iconst Z.1 yt_X11_boat_24 (by decide) (yr_mono x_ri (yr_ri Z rfl yt_X11_boat_25))))))))))))))))))))))))))))
def f_X11_boat : yFn := fun n ys h => (fun n => xp_X11_boat n) n (yar 0 ([100065, 0, 0, 0].zip ys)) [] h
theorem m_X11_boat (l : Launch) : yMet zkds vwCl zTW zKP l (yX11_boat, cX11_boat, 5, (some .int)) 1 21 [100065, 0, 0, 0] (yF 0 f_X11_boat) := y_metF zkp_ok zTW_good (yX11_boat, cX11_boat, 5, (some .int)) 1 21 [100065, 0, 0, 0] 0 (fun n => xp_X11_boat n) (by decide +kernel) (by decide) (fun η D cy L Θ p e R s m args below meth c Q Qr n Z => s_X11_boat (n := n) Z)
set_option maxRecDepth 100000 in
theorem e_X11_boat {n : Nat} {x1 x2 x3 : Int} {h : yH} : f_X11_boat n [1, x1, x2, x3] h = xg (h 1 0 = 3) (xb (f_X9_findSea n [3, x1] h) (fun v1 h1 => if v1 < 0 then (some ((-1), h1)) else (xg (0 ≤ v1) (xb (f_X6_hasBoat n [v1, x2] h1) (fun v2 h2 => if v2 = 0 then (some ((-1), h2)) else (if x3 = 0 then (xg (0 ≤ v1) (xg (h2 v1.toNat 11 = (v1 + 5)) (xg (0 ≤ x2 ∧ x2 < 6) (some ((h2 (v1 + 5).toNat x2.toNat), h2))))) else (if x3 = 1 then (xg (0 ≤ v1) (xg (h2 v1.toNat 12 = (v1 + 6)) (xg (0 ≤ x2 ∧ x2 < 6) (some ((h2 (v1 + 6).toNat x2.toNat), h2))))) else (if x3 = 2 then (xg (0 ≤ v1) (xg (h2 v1.toNat 13 = (v1 + 7)) (xg (0 ≤ x2 ∧ x2 < 6) (some ((h2 (v1 + 7).toNat x2.toNat), h2))))) else (if x3 = 3 then (xg (0 ≤ v1) (some ((yari 7 (yari 6 (h2 v1.toNat 14) x2) 1), h2))) else (some ((-1), h2))))))))))) := by rfl
end
