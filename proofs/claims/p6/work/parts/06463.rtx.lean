/-! text: the same answer, the same contents -/
theorem txK_c {a b : Nat → Int} {sort at_ : Int} (e : ∀ j, j < 3 → a j = b j) : txK a sort at_ = txK b sort at_ := by
  unfold txK
  by_cases h : 0 ≤ sort ∧ sort ≤ 2
  · rw [if_pos h, if_pos h, e _ (by omega)]
  · rw [if_neg h, if_neg h]
theorem txK_le {m : Nat → Int} {sort at_ : Int} (hk : txK m sort at_ ≠ -2) : txK m sort at_ ≤ m sort.toNat := by
  unfold txK at hk ⊢
  by_cases h1 : 0 ≤ sort ∧ sort ≤ 2
  · rw [if_pos h1] at hk ⊢
    by_cases h2 : at_ = -1
    · rw [if_pos h2] at hk ⊢
      by_cases h3 : m sort.toNat = 2
      · rw [if_pos h3] at hk
        exact absurd rfl hk
      · rw [if_neg h3]
        omega
    · rw [if_neg h2] at hk ⊢
      by_cases h3 : 0 ≤ at_ ∧ at_ < m sort.toNat
      · rw [if_pos h3]
        omega
      · rw [if_neg h3] at hk
        exact absurd rfl hk
  · rw [if_neg h1] at hk
    exact absurd rfl hk
/-- where the contents stay -/
theorem RB.tx {F : Prop} {h h2 g g2 : yH} (R : RB F 0 0 h g) (l1 : h2 4 1 = 0) (l2 : g2 1 0 = 0) (f1 : h2 3 5 = g2 2 0) (f2 : h2 3 6 = g2 3 0) (hc : ∀ a j, 6 ≤ a ∧ a ≤ 79 → h2 a j = h a j) (gc : ∀ a j, 4 ≤ a ∧ a ≤ 7 → g2 a j = g a j) : RB F 0 0 h2 g2 := by
  obtain ⟨r1, r2, r3, r4, r5, r6, r7, r8⟩ := R
  refine ⟨by rw [show h2 (0 + 4) 1 = 0 from l1, l2], fun i hi => ?_, fun j hj => ?_, f1, f2, fun i hi => ?_, fun i hi => ?_, fun i hi => ?_⟩
  · rw [show h2 (0 + 4) 1 = 0 from l1] at hi
    omega
  · rw [hc _ _ (by omega), gc _ _ (by omega)]
    exact r3 j hj
  · obtain ⟨t, a1, a2, a3⟩ := r6 i hi
    exact ⟨t, fun f => (a1 f).at (fun a j w1 w2 => hc a j (by omega)), fun j hj => by rw [gc _ _ (by omega)]; exact a2 j hj, fun w => a3 (by rw [gc _ _ (by omega)] at w; exact w)⟩
  · obtain ⟨t, a1, a2, a3⟩ := r7 i hi
    exact ⟨t, a1.at (fun a j w1 w2 => hc a j (by omega)), fun j hj => by rw [gc _ _ (by omega)]; exact a2 j hj, fun w => a3 (by rw [gc _ _ (by omega)] at w; exact w)⟩
  · obtain ⟨t, a1, a2, a3⟩ := r8 i hi
    exact ⟨t, a1.at (fun a j w1 w2 => hc a j (by omega)), fun j hj => by rw [gc _ _ (by omega)]; exact a2 j hj, fun w => a3 (by rw [gc _ _ (by omega)] at w; exact w)⟩
/-- where a text is kept -/
theorem RB.kp {F : Prop} {of k : Nat} {t : Nat → Int} {h h2 g g2 : yH} (R : RB F 0 0 h g) (hof : of ≤ 2) (hk : k < 2) (hkm : (k : Int) ≤ g 4 of) (l1 : h2 4 1 = 0) (l2 : g2 1 0 = 0) (f1 : h2 3 5 = g2 2 0) (f2 : h2 3 6 = g2 3 0) (hW : tWf of t) (hO : cO of k t h2) (h6 : h2 6 of = max (h 6 of) ((k : Int) + 1))
    (hc : ∀ a j, 6 ≤ a ∧ a ≤ 79 → ¬ (a = 6 ∧ j = of) → ¬ (20 + 20 * of + 10 * k ≤ a ∧ a ≤ 27 + 20 * of + 10 * k) → h2 a j = h a j) (gc : ∀ a j, 4 ≤ a ∧ a ≤ 7 → g2 a j = txS of k t g a j) : RB F 0 0 h2 g2 := by
  obtain ⟨r1, r2, r3, r4, r5, r6, r7, r8⟩ := R
  have e6 : h 6 of = g 4 of := by
    have := r3 of (by omega)
    rw [show 0 + 6 = 6 from rfl, show 3 * 0 + of = of by omega] at this
    exact this
  have g4 : ∀ j, g2 4 j = if j = of then max (g 4 of) ((k : Int) + 1) else g 4 j := fun j => by
    rw [gc 4 j (by omega)]
    unfold txS
    by_cases w : j = of
    · rw [if_pos ⟨rfl, w⟩, if_pos w]
      by_cases w2 : g 4 of = (k : Int)
      · rw [if_pos w2]
        omega
      · rw [if_neg w2]
        omega
    · rw [if_neg (by omega), if_neg (by omega), if_neg (by omega), if_neg (by omega), if_neg w]
  refine ⟨by rw [show h2 (0 + 4) 1 = 0 from l1, l2], fun i hi => ?_, fun j hj => ?_, f1, f2, fun i hi => ?_, fun i hi => ?_, fun i hi => ?_⟩
  · rw [show h2 (0 + 4) 1 = 0 from l1] at hi
    omega
  · rw [show 3 * 0 + j = j by omega, show 0 + 6 = 6 from rfl, g4]
    by_cases w : j = of
    · rw [if_pos w, w, h6, e6]
    · rw [if_neg w, hc 6 j (by omega) (by omega) (by omega)]
      have := r3 j hj
      rw [show 0 + 6 = 6 from rfl, show 3 * 0 + j = j by omega] at this
      exact this
  · by_cases w : of = 0 ∧ i = k
    · obtain ⟨rfl, rfl⟩ := w
      refine ⟨t, fun _ => ?_, fun j hj => ?_, fun _ => hW.1 rfl⟩
      · have := hO.1 rfl
        rw [show 0 + 20 + 10 * i = 20 + 10 * i by omega]
        exact this
      · rw [gc 5 _ (by omega)]
        unfold txS
        rw [if_neg (by omega), if_pos (by omega), show 100 * 0 + 50 * i + j - 50 * i = j by omega]
    · obtain ⟨t', a1, a2, a3⟩ := r6 i hi
      refine ⟨t', fun f => (a1 f).at (fun a j w1 w2 => hc a j (by omega) (by omega) (by omega)), fun j hj => ?_, fun q => a3 ?_⟩
      · rw [gc 5 _ (by omega)]
        unfold txS
        rw [if_neg (by omega), if_neg (by omega), if_neg (by omega), if_neg (by omega)]
        exact a2 j hj
      · rw [show 3 * 0 = 0 from rfl] at q ⊢
        rw [g4] at q
        by_cases w3 : 0 = of
        · rw [if_pos w3, ← w3] at q
          rw [← w3] at hkm
          omega
        · rw [if_neg w3] at q
          exact q
  · by_cases w : of = 1 ∧ i = k
    · obtain ⟨rfl, rfl⟩ := w
      refine ⟨t, ?_, fun j hj => ?_, fun _ => hW.2.1 rfl⟩
      · have := hO.2.1 rfl
        rw [show 0 + 40 + 10 * i = 40 + 10 * i by omega]
        exact this
      · rw [gc 6 _ (by omega)]
        unfold txS
        rw [if_neg (by omega), if_neg (by omega), if_pos (by omega), show 242 * 0 + 121 * i + j - 121 * i = j by omega]
    · obtain ⟨t', a1, a2, a3⟩ := r7 i hi
      refine ⟨t', a1.at (fun a j w1 w2 => hc a j (by omega) (by omega) (by omega)), fun j hj => ?_, fun q => a3 ?_⟩
      · rw [gc 6 _ (by omega)]
        unfold txS
        rw [if_neg (by omega), if_neg (by omega), if_neg (by omega), if_neg (by omega)]
        exact a2 j hj
      · rw [show 3 * 0 + 1 = 1 from rfl] at q ⊢
        rw [g4] at q
        by_cases w3 : 1 = of
        · rw [if_pos w3, ← w3] at q
          rw [← w3] at hkm
          omega
        · rw [if_neg w3] at q
          exact q
  · by_cases w : of = 2 ∧ i = k
    · obtain ⟨rfl, rfl⟩ := w
      refine ⟨t, ?_, fun j hj => ?_, fun _ => hW.2.2 rfl⟩
      · have := hO.2.2 rfl
        rw [show 0 + 60 + 10 * i = 60 + 10 * i by omega]
        exact this
      · rw [gc 7 _ (by omega)]
        unfold txS
        rw [if_neg (by omega), if_neg (by omega), if_neg (by omega), if_pos (by omega), show 104 * 0 + 52 * i + j - 52 * i = j by omega]
    · obtain ⟨t', a1, a2, a3⟩ := r8 i hi
      refine ⟨t', a1.at (fun a j w1 w2 => hc a j (by omega) (by omega) (by omega)), fun j hj => ?_, fun q => a3 ?_⟩
      · rw [gc 7 _ (by omega)]
        unfold txS
        rw [if_neg (by omega), if_neg (by omega), if_neg (by omega), if_neg (by omega)]
        exact a2 j hj
      · rw [show 3 * 0 + 2 = 2 from rfl] at q ⊢
        rw [g4] at q
        by_cases w3 : 2 = of
        · rw [if_pos w3, ← w3] at q
          rw [← w3] at hkm
          omega
        · rw [if_neg w3] at q
          exact q
theorem RR_text {F : Prop} {m n : Nat} {sort at_ : Int} {h g : yH} (hn : 2800 ≤ n ∧ 2600 ≤ m) (R : RR F h g) (hL : lnI h) (hm : 0 ≤ h 4 1 ∧ h 4 1 ≤ 600) (hk : ∀ j, j < 12 → 0 ≤ g 4 j ∧ g 4 j ≤ 2) : ∃ v h2 g2, f_X11_text n [1, sort, at_] h = some (v, h2) ∧ f_X12_text m [35, sort, at_] g = some (v, g2) ∧ RR F h2 g2 := by
  obtain ⟨hP, gP, R0, RI0⟩ := R
  have e0 : h 4 1 = g 1 0 := R0.1
  have e6 : ∀ j, j < 3 → h 6 j = g 4 j := fun j hj => by
    have := R0.2.2.1 j hj
    rw [show 0 + 6 = 6 from rfl, show 3 * 0 + j = j by omega] at this
    exact this
  obtain ⟨t0, w, g2, ht, e2, q⟩ := text_e (n := m) (sort := sort) (at_ := at_) hn.2 gP (by rw [← e0]; exact hm) hk
  have hc : cC (uR g) (g 1 0).toNat h := by
    refine ⟨by rw [e0]; omega, by omega, fun i hi => ?_, hP⟩
    have := R0.2.1 i (by rw [show h (0 + 4) 1 = h 4 1 from rfl]; omega)
    rw [show 600 * 0 + i = i by omega, show h (0 + 5) i = h 5 i from rfl] at this
    unfold uR
    rw [this]
  obtain ⟨v, h2, e1, r⟩ := textC_e (n := n) (sort := sort) (at_ := at_) hn.1 hc (fun j hj => by rw [e6 j hj]; exact hk j (by omega)) ht
  generalize pRd (uR g) (g 1 0).toNat sort.toNat 700 0 (0, -1) t0 (-1) (-1) = S at q r
  obtain ⟨P2, l41, fr, r⟩ := r
  obtain ⟨Q2, s10, s1, s2, s3, s0, s34, q⟩ := q
  have eK : txK (h 6) sort at_ = txK (g 4) sort at_ := txK_c e6
  rw [eK] at r
  have fI : ∀ a j, 1000 ≤ a → h2 a j = h a j := fun a j w => fr a j (by omega) (by omega) (by omega)
  have f2 : ∀ j, h2 2 j = h 2 j := fun j => fr 2 j (by omega) (by omega) (by omega)
  have s123 : ∀ a j, a = 1 ∨ a = 2 ∨ a = 3 → j ≠ 0 → g2 a j = g a j := fun a j w1 w2 => by
    rcases w1 with rfl | rfl | rfl
    · exact s1 j w2
    · exact s2 j w2
    · exact s3 j w2
  rcases r with ⟨c0, c1, c2, c3, c4⟩ | ⟨c0, c2, c3, r⟩
  · rcases q with ⟨-, d1, d2, d3, d4⟩ | ⟨d0, -⟩
    · rw [c1] at e1
      rw [d1] at e2
      refine ⟨_, _, _, e1, e2, P2, Q2, R0.tx l41 s10 (by rw [c2, d2]) (by rw [c3, d3]) (fun a j w => c4 a j w) d4, RI0.fr hL fI f2 s34 (fun j _ => s0 j) s123 (fun j _ => d4 4 j (by omega)) (fun j _ => d4 5 j (by omega)) (fun j _ => d4 6 j (by omega)) (fun j _ => d4 7 j (by omega))⟩
    · exact absurd c0 d0
  · rcases q with ⟨d0, -⟩ | ⟨-, d2, d3, q⟩
    · exact absurd d0 c0
    · have k2 := txK_b (fun j hj => hk j (by omega)) c0
      have kl := txK_le c0
      rcases r with ⟨u0, u1, u2⟩ | ⟨u0, u1, u2, u3, u4, u5⟩
      · rcases q with ⟨-, w1, w2⟩ | ⟨w0, -⟩
        · rw [u1] at e1
          rw [w1] at e2
          refine ⟨_, _, _, e1, e2, P2, Q2, R0.tx l41 s10 (by rw [c2, d2]) (by rw [c3, d3]) (fun a j w => u2 a j w) w2, RI0.fr hL fI f2 s34 (fun j _ => s0 j) s123 (fun j _ => w2 4 j (by omega)) (fun j _ => w2 5 j (by omega)) (fun j _ => w2 6 j (by omega)) (fun j _ => w2 7 j (by omega))⟩
        · exact absurd w0 u0
      · rcases q with ⟨w0, -⟩ | ⟨-, w1, w2, w3⟩
        · exact absurd u0 w0
        · have ev : v = w := u1.trans w1.symm
          rw [ev] at e1 u3 u4 u5
          rw [← w1] at k2 kl w3
          obtain ⟨of, rfl⟩ : ∃ of : Nat, sort = (of : Int) := ⟨sort.toNat, by omega⟩
          obtain ⟨k, rfl⟩ : ∃ k : Nat, w = (k : Int) := ⟨w.toNat, by omega⟩
          simp only [Int.toNat_natCast] at u2 u3 u4 u5 w3 kl
          have tx : ∀ a j, 4 ≤ a ∧ a ≤ 7 → (a = 4 ∧ 3 ≤ j) ∨ (a = 5 ∧ 100 ≤ j) ∨ (a = 6 ∧ 242 ≤ j) ∨ (a = 7 ∧ 104 ≤ j) → g2 a j = g a j := fun a j x1 x2 => by
            rw [w3 a j x1]
            unfold txS
            rw [if_neg (by omega), if_neg (by omega), if_neg (by omega), if_neg (by omega)]
          refine ⟨_, _, _, e1, e2, P2, Q2, R0.kp (of := of) (k := k) (t := S.2) (by omega) (by omega) kl l41 s10 (by rw [c2, d2]) (by rw [c3, d3]) u2 u3 u4 u5 w3, RI0.fr hL fI f2 s34 (fun j _ => s0 j) s123 (fun j x => tx 4 j (by omega) (by omega)) (fun j x => tx 5 j (by omega) (by omega)) (fun j x => tx 6 j (by omega) (by omega)) (fun j x => tx 7 j (by omega) (by omega))⟩
