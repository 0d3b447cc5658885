section
/-! how many orders: the class -/
/-- what is summed for a set u when the sets below q are done, and of q the sayings below s -/
def wsO (t : Nat → Int) (N u q s : Nat) : Int := smA (fun k => if u - 2 ^ k < q ∨ (u - 2 ^ k = q ∧ k < s) then trm t N u k else 0) N
theorem wsO_0 {t : Nat → Int} {N u : Nat} : wsO t N u 0 0 = 0 := smA_0 N (fun k _ => if_neg (by omega))
theorem wsO_n {t : Nat → Int} {N u q : Nat} : wsO t N u q N = wsO t N u (q + 1) 0 := smA_c N (fun k hk => by
  by_cases c : u - 2 ^ k < q ∨ (u - 2 ^ k = q ∧ k < N)
  · rw [if_pos c, if_pos (by omega)]
  · rw [if_neg c, if_neg (by omega)])
theorem wsO_f {t : Nat → Int} {N u s : Nat} (hN : N ≤ 9) (h0 : u ≠ 0) (hu : u < 512) : wsO t N u u s = cnR t N u := by
  rw [cnR_e h0 hu]
  refine smA_c N (fun k hk => ?_)
  cases c : sbt (u : Int) k with
  | true =>
    obtain ⟨-, q2, -, -, -⟩ := s9t hu (by omega) c
    have p : 1 ≤ 2 ^ k := Nat.one_le_two_pow
    rw [if_pos (by omega)]
  | false =>
    have e : trm t N u k = 0 := if_neg (fun w => by rw [c] at w; cases w.1)
    rw [e]
    by_cases z : u - 2 ^ k < u ∨ (u - 2 ^ k = u ∧ k < s)
    · rw [if_pos z]
    · rw [if_neg z]
theorem wsO_le {t : Nat → Int} {N u q s : Nat} (hN : N ≤ 9) (hu : u < 512) : 0 ≤ wsO t N u q s ∧ wsO t N u q s ≤ 387420489 := by
  have b := trm_p (t := t) (N := N) hN hu N (Nat.le_refl _)
  have l : wsO t N u q s ≤ smA (trm t N u) N := smA_le N (fun k _ => by
    have := (trm_b (t := t) (N := N) (s := u) (k := k) hN hu).1
    by_cases z : u - 2 ^ k < q ∨ (u - 2 ^ k = q ∧ k < s)
    · rw [if_pos z]; exact Int.le_refl _
    · rw [if_neg z]; exact this)
  have m : 0 ≤ wsO t N u q s := (smA_b (B := 387420489) N (fun k _ => by
    have := trm_b (t := t) (N := N) (s := u) (k := k) hN hu
    by_cases z : u - 2 ^ k < q ∨ (u - 2 ^ k = q ∧ k < s)
    · rw [if_pos z]; exact this
    · rw [if_neg z]; omega)).1
  omega
/-- what a saying adds -/
theorem wsO_a {t : Nat → Int} {N u q s : Nat} (hN : N ≤ 9) (hu : u < 512) (hq : q < 512) (hs : s < N) (c1 : sbt (q : Int) s = false) (c2 : yari 7 (bf t s) (yari 9 (q : Int) (-1)) = 0) : wsO t N u q (s + 1) = wsO t N u q s + (if u = q + 2 ^ s then cnR t N q else 0) := by
  have p : 1 ≤ 2 ^ s := Nat.one_le_two_pow
  obtain ⟨-, -, -, q4⟩ := s9f hq (by omega) c1
  refine smA_1 (x := s) N hs ?_ (fun k hk hne => ?_)
  · have z1 : ¬ (u - 2 ^ s < q ∨ (u - 2 ^ s = q ∧ s < s)) ∨ u - 2 ^ s < q := by omega
    by_cases y : u = q + 2 ^ s
    · have et : trm t N u s = cnR t N q := by
        unfold trm
        rw [show u - 2 ^ s = q by omega, if_pos (by rw [y]; exact ⟨q4, c2⟩)]
      rw [if_pos (by omega), if_neg (show ¬ (u - 2 ^ s < q ∨ (u - 2 ^ s = q ∧ s < s)) by omega), if_pos y, et, Int.zero_add]
    · rw [if_neg y, Int.add_zero]
      by_cases w : u - 2 ^ s = q
      · have et : trm t N u s = 0 := by
          cases c : sbt (u : Int) s with
          | true =>
            obtain ⟨-, r2, -⟩ := s9t hu (by omega) c
            omega
          | false => exact if_neg (fun w => by rw [c] at w; cases w.1)
        rw [et]
        by_cases x1 : u - 2 ^ s < q ∨ (u - 2 ^ s = q ∧ s < s + 1)
        · by_cases x2 : u - 2 ^ s < q ∨ (u - 2 ^ s = q ∧ s < s)
          · rw [if_pos x1, if_pos x2]
          · rw [if_pos x1, if_neg x2]
        · omega
      · by_cases x1 : u - 2 ^ s < q ∨ (u - 2 ^ s = q ∧ s < s + 1)
        · rw [if_pos x1, if_pos (by omega)]
        · rw [if_neg x1, if_neg (by omega)]
  · by_cases x1 : u - 2 ^ k < q ∨ (u - 2 ^ k = q ∧ k < s + 1)
    · rw [if_pos x1, if_pos (by omega)]
    · rw [if_neg x1, if_neg (by omega)]
theorem wsO_z {t : Nat → Int} {N u q s : Nat} (hN : N ≤ 9) (hu : u < 512) (hs : s < N) (c : ¬ (sbt (q : Int) s = false ∧ yari 7 (bf t s) (yari 9 (q : Int) (-1)) = 0)) : wsO t N u q (s + 1) = wsO t N u q s := by
  have p : 1 ≤ 2 ^ s := Nat.one_le_two_pow
  refine smA_c N (fun k hk => ?_)
  by_cases z : k = s
  · rw [z]
    by_cases w : u - 2 ^ s = q
    · have et : trm t N u s = 0 := by
        refine if_neg (fun w2 => ?_)
        obtain ⟨-, -, -, r4, -⟩ := s9t hu (by omega) w2.1
        rw [w] at r4 w2
        exact c ⟨r4, w2.2⟩
      rw [et]
      by_cases x1 : u - 2 ^ s < q ∨ (u - 2 ^ s = q ∧ s < s + 1)
      · by_cases x2 : u - 2 ^ s < q ∨ (u - 2 ^ s = q ∧ s < s)
        · rw [if_pos x1, if_pos x2]
        · rw [if_pos x1, if_neg x2]
      · omega
    · by_cases x1 : u - 2 ^ s < q ∨ (u - 2 ^ s = q ∧ s < s + 1)
      · rw [if_pos x1, if_pos (by omega)]
      · rw [if_neg x1, if_neg (by omega)]
  · by_cases x1 : u - 2 ^ k < q ∨ (u - 2 ^ k = q ∧ k < s + 1)
    · rw [if_pos x1, if_pos (by omega)]
    · rw [if_neg x1, if_neg (by omega)]
def hmI (t : Nat → Int) (N q s : Nat) (h : yH) : Prop := h 185 0 = 1 ∧ ∀ u, u ≠ 0 → u < 2 ^ N → h 185 u = wsO t N u q s
theorem hm39_l {b q : Nat} {t : Nat → Int} {N : Nat} (hN : N ≤ 9) (e0 : t 0 = (N : Int)) (hq : q + 1 < 2 ^ N) : ∀ (mm s n : Nat) (h : yH), mm + s = N → mm < n → oC b t h → (∀ j, j < 9 → h 183 j = bf t j) → hmI t N q s h →
    ∃ n' h2, xl_X3_howMany n 39 [180, (b : Int), ((2 ^ N : Nat) : Int) - 1, (q : Int), (s : Int)] h = xl_X3_howMany n' 31 [180, (b : Int), ((2 ^ N : Nat) : Int) - 1, ((q + 1 : Nat) : Int)] h2 ∧ n = n' + mm + 1 ∧ (∀ i j, i ≠ 185 → h2 i j = h i j) ∧ hmI t N (q + 1) 0 h2 := by
  obtain ⟨p1, p2, p3⟩ := p2_e hN
  intro mm
  induction mm with
  | zero =>
    intro s n h e1 e2 H I J
    obtain ⟨n, rfl⟩ : ∃ n', n = n' + 1 := ⟨n - 1, by omega⟩
    refine ⟨n, h, ?_, by omega, fun _ _ _ => rfl, J.1, fun u u1 u2 => by rw [J.2 u u1 u2, show s = N by omega, wsO_n]⟩
    rw [e_X3_howMany_39, Int.toNat_natCast, H.2.1.1, if_neg (by omega), xg_pos (by omega), show (q : Int) + 1 = ((q + 1 : Nat) : Int) by omega]
  | succ mm ih =>
    intro s n h e1 e2 H I J
    obtain ⟨n, rfl⟩ : ∃ n', n = n' + 1 := ⟨n - 1, by omega⟩
    have o := H.2.2.2
    have is := I s (by omega)
    have es : (s : Int) + 1 = ((s + 1 : Nat) : Int) := by omega
    by_cases c : sbt (q : Int) s = false ∧ yari 7 (bf t s) (yari 9 (q : Int) (-1)) = 0
    · obtain ⟨q1, q2, q3, q4⟩ := s9f (show q < 512 by omega) (show s < 9 by omega) c.1
      have ub := n9F ⟨N, by omega⟩ ⟨q, by omega⟩ ⟨s, by omega⟩ (by show q < 2 ^ N; omega) (by show s < N; omega) q1
      simp only at ub
      have p : 1 ≤ 2 ^ s := Nat.one_le_two_pow
      have hu := J.2 (q + 2 ^ s) (by omega) ub
      have hq2 : h 185 q = cnR t N q := by
        by_cases z : q = 0
        · rw [z, J.1, cnR_0]
        · rw [J.2 q z (by omega), wsO_f hN z (by omega)]
      have wa := wsO_a (t := t) (u := q + 2 ^ s) hN (by omega) (show q < 512 by omega) (show s < N by omega) c.1 c.2
      rw [if_pos rfl] at wa
      have wl := wsO_le (t := t) (N := N) (u := q + 2 ^ s) (q := q) (s := s + 1) hN (by omega)
      rw [wa] at wl
      have wl2 := wsO_le (t := t) (N := N) (u := q + 2 ^ s) (q := q) (s := s) hN (by omega)
      obtain ⟨n', h2, f1, f2, f3, f4⟩ := ih (s + 1) n (zup h 185 (q + 2 ^ s) (wsO t N (q + 2 ^ s) q s + cnR t N q)) (by omega) (by omega) (H.fr (fun a j w => zup_ne (by omega))) (fun j hj => by rw [zup_ne (by omega)]; exact I j hj) ⟨by rw [zup_ne (by omega)]; exact J.1, fun u u1 u2 => by
        by_cases z : u = q + 2 ^ s
        · rw [z, zup_at, wa]
        · have w2 := wsO_a (t := t) (u := u) hN (by omega) (show q < 512 by omega) (show s < N by omega) c.1 c.2
          rw [if_neg z, Int.add_zero] at w2
          rw [zup_ne (by omega), J.2 u u1 u2, w2]⟩
      refine ⟨n', h2, ?_, by omega, fun i j w => by rw [f3 i j w, zup_ne (by omega)], f4⟩
      rw [e_X3_howMany_39, Int.toNat_natCast, Int.toNat_natCast, H.2.1.1, if_pos (by omega), if_pos ((sb_f (by omega)).mpr c.1), xg_pos o.2.2.1, xg_pos (by omega), is, if_pos c.2, e_X3_howMany_76, if_neg (by decide), q2, Int.toNat_natCast, Int.toNat_natCast, xg_pos o.2.2.2.2.1, xg_pos (by omega), xg_pos o.2.2.2.2.1, xg_pos (by omega), hu, hq2, xg_pos (by omega), xg_pos (by omega), xg_pos (by omega), es]
      exact f1
    · have key : xq_X3_howMany_76 n (xl_X3_howMany n) [180, (b : Int), ((2 ^ N : Nat) : Int) - 1, (q : Int), (s : Int), 0] h = xl_X3_howMany n 39 [180, (b : Int), ((2 ^ N : Nat) : Int) - 1, (q : Int), ((s + 1 : Nat) : Int)] h := by
        rw [e_X3_howMany_76, if_pos rfl, xg_pos (by omega), es]
      obtain ⟨n', h2, f1, f2, f3, f4⟩ := ih (s + 1) n h (by omega) (by omega) H I ⟨J.1, fun u u1 u2 => by rw [J.2 u u1 u2, wsO_z hN (by omega) (by omega) c]⟩
      refine ⟨n', h2, ?_, by omega, f3, f4⟩
      rw [e_X3_howMany_39, Int.toNat_natCast, Int.toNat_natCast, H.2.1.1, if_pos (by omega)]
      by_cases c1 : yari 7 (yari 6 (q : Int) (s : Int)) 1 = 0
      · have c2 : ¬ yari 7 (bf t s) (yari 9 (q : Int) (-1)) = 0 := fun w => c ⟨(sb_f (by omega)).mp c1, w⟩
        rw [if_pos c1, xg_pos o.2.2.1, xg_pos (by omega), is, if_neg c2, key]
        exact f1
      · rw [if_neg c1, key]
        exact f1
theorem hm31_l {b : Nat} {t : Nat → Int} {N : Nat} (hN : N ≤ 9) (h1 : 1 ≤ N) (e0 : t 0 = (N : Int)) : ∀ (mm q n : Nat) (h : yH), mm + q + 1 = 2 ^ N → 12 * mm + 5 ≤ n → oC b t h → (∀ j, j < 9 → h 183 j = bf t j) → hmI t N q 0 h →
    ∃ h2, xl_X3_howMany n 31 [180, (b : Int), ((2 ^ N : Nat) : Int) - 1, (q : Int)] h = some (cnR t N (2 ^ N - 1), h2) ∧ ∀ i j, i ≠ 185 → h2 i j = h i j := by
  obtain ⟨p1, p2, p3⟩ := p2_e hN
  intro mm
  induction mm with
  | zero =>
    intro q n h e1 e2 H I J
    obtain ⟨n, rfl⟩ : ∃ n', n = n' + 1 := ⟨n - 1, by omega⟩
    have p4 : 2 ≤ 2 ^ N := by
      have : 2 ^ 1 ≤ 2 ^ N := Nat.pow_le_pow_right (by decide) h1
      omega
    refine ⟨h, ?_, fun _ _ _ => rfl⟩
    rw [e_X3_howMany_31, if_neg (by omega), xg_pos H.2.2.2.2.2.2.2.1, xg_pos (by omega), show (((2 ^ N : Nat) : Int) - 1).toNat = 2 ^ N - 1 by omega, J.2 (2 ^ N - 1) (by omega) (by omega), show q = 2 ^ N - 1 by omega, wsO_f hN (by omega) (by omega)]
  | succ mm ih =>
    intro q n h e1 e2 H I J
    obtain ⟨n, rfl⟩ : ∃ n', n = n' + 1 := ⟨n - 1, by omega⟩
    obtain ⟨n1, hA, A1, A2, A3, A4⟩ := hm39_l (b := b) hN e0 (show q + 1 < 2 ^ N by omega) N 0 n h (by omega) (by omega) H I J
    rw [show ((0 : Nat) : Int) = 0 from rfl] at A1
    obtain ⟨h2, f1, f2⟩ := ih (q + 1) n1 hA (by omega) (by omega) (H.fr (fun a j w => A3 a j (by omega))) (fun j hj => (A3 _ _ (by decide)).trans (I j hj)) A4
    refine ⟨h2, ?_, fun i j w => (f2 i j w).trans (A3 i j w)⟩
    rw [e_X3_howMany_31, if_pos (by omega), A1]
    exact f1
theorem fil512_l {a : Nat} {z : Int} : ∀ (mm s n : Nat) (h : yH), mm + s = 512 → mm < n → ∃ h2, xl_J7_fill_53178_o n 5 [(a : Int), z, (s : Int), 512] h = some (0, h2) ∧ (∀ i j, ¬ (i = a ∧ s ≤ j ∧ j < 512) → h2 i j = h i j) ∧ ∀ j, s ≤ j → j < 512 → h2 a j = z := by
  intro mm
  induction mm with
  | zero =>
    intro s n h e1 e2
    obtain ⟨n, rfl⟩ : ∃ n', n = n' + 1 := ⟨n - 1, by omega⟩
    refine ⟨h, ?_, fun _ _ _ => rfl, fun j w1 w2 => by omega⟩
    rw [e_J7_fill_53178_o_5, if_neg (by omega)]
  | succ mm ih =>
    intro s n h e1 e2
    obtain ⟨n, rfl⟩ : ∃ n', n = n' + 1 := ⟨n - 1, by omega⟩
    obtain ⟨h2, f1, f2, f3⟩ := ih (s + 1) n (zup h a s z) (by omega) (by omega)
    refine ⟨h2, ?_, fun i j w => by rw [f2 i j (by omega), zup_ne (by omega)], fun j w1 w2 => ?_⟩
    · rw [e_J7_fill_53178_o_5, if_pos (by omega), xg_pos (by omega), xh_e, xg_pos (by omega), Int.toNat_natCast, Int.toNat_natCast, show (s : Int) + 1 = ((s + 1 : Nat) : Int) by omega]
      exact f1
    · by_cases y : j = s
      · rw [y, f2 a s (by omega), zup_at]
      · exact f3 j (by omega) w2
/-- how many orders, of both -/
theorem hmy_e {n m b d : Nat} {t : Nat → Int} {h g : yH} (hn : 7000 ≤ n) (hm : 7000 ≤ m) (hW : tW2 t) (hh : wh2 t) (H : oC b t h) (HR : oR d t g) (I : ∀ j : Nat, (j : Int) < t 0 → g 29 j = bf t j) :
    ∃ v h2 g2, f_X3_howMany n [180, (b : Int)] h = some (v, h2) ∧ f_X12_findOrders m [35] g = some (v, g2) ∧ (∀ a j, a ≠ 183 → a ≠ 185 → h2 a j = h a j) ∧ ∀ a j, a ≠ 30 → g2 a j = g a j := by
  have w0 := hW.1
  have h1 := hh.1
  obtain ⟨N, e0⟩ : ∃ N : Nat, t 0 = (N : Int) := ⟨(t 0).toNat, by omega⟩
  have hN : N ≤ 9 := by omega
  obtain ⟨p1, p2, p3⟩ := p2_e hN
  obtain ⟨hA, A1, A2, A3⟩ := fbf_e (n := n) (by omega) hW H
  have HA : oC b t hA := H.fr (fun a j w => A2 a j (by omega))
  obtain ⟨hB, B1, B2, B3⟩ := fil512_l (a := 185) (z := 0) 512 0 n hA rfl (by omega)
  have HB : oC b t (zup hB 185 0 1) := HA.fr (fun a j w => by rw [zup_ne (by omega)]; exact B2 a j (by omega))
  obtain ⟨h2, f1, f2⟩ := hm31_l (b := b) hN (by omega) e0 (2 ^ N - 1) 0 n (zup hB 185 0 1) (by omega) (by omega) HB (fun j hj => by rw [zup_ne (by omega), B2 _ _ (by omega)]; exact A3 j hj) ⟨zup_at _ _ _ _, fun u u1 u2 => by rw [zup_ne (by omega), B3 u (Nat.zero_le _) (by omega), wsO_0]⟩
  obtain ⟨g2, k1, k2⟩ := fo9_l (d := d) hN (by omega) e0 (2 ^ N - 1) 1 m (zup g 30 0 1) (by omega) (by decide) (by omega) (HR.fr (fun a j w => zup_ne (by omega))) (fun j hj => by rw [zup_ne (by omega)]; exact I j hj) (fun u hu => by
    rw [show u = 0 by omega, zup_at, cnR_0])
  rw [show ((0 : Nat) : Int) = 0 from rfl] at f1 B1
  rw [show ((1 : Nat) : Int) = 1 from rfl] at k1
  rw [show ((185 : Nat) : Int) = 185 from rfl] at B1
  refine ⟨cnR t N (2 ^ N - 1), h2, g2, ?_, ?_, fun a j w1 w2 => by rw [f2 a j w2, zup_ne (by omega), B2 a j (by omega), A2 a j w1], fun a j w => by rw [k2 a j w, zup_ne (by omega)]⟩
  · rw [e_X3_howMany, A1, xb_some, Int.toNat_natCast, HA.2.1.1, e0, p1, xg_pos (by omega), xg_pos HA.2.2.2.2.2.2.2.1, e_J7_fill_53178_o, B1, xb_some, xg_pos ((B2 _ _ (by omega)).trans HA.2.2.2.2.2.2.2.1)]
    exact f1
  · rw [e_X12_findOrders, xg_pos (HR.2.1.p (j := 59) (k := 30) (by decide))]
    exact k1
end
section
/-! how many bits, up to sixteen; sets of nine -/
def ocN (x : Int) : Nat → Nat → Int
  | 0, _ => 0
  | m + 1, s => (if sbt x s = true then 1 else 0) + ocN x m (s + 1)
theorem ocN_b {x : Int} : ∀ m s, 0 ≤ ocN x m s ∧ ocN x m s ≤ m := by
  intro m
  induction m with
  | zero => intro s; exact ⟨Int.le_refl _, Int.le_refl _⟩
  | succ m ih =>
    intro s
    have i := ih (s + 1)
    show 0 ≤ (if sbt x s = true then 1 else 0) + ocN x m (s + 1) ∧ (if sbt x s = true then 1 else 0) + ocN x m (s + 1) ≤ ((m + 1 : Nat) : Int)
    by_cases c : sbt x s = true
    · rw [if_pos c]; omega
    · rw [if_neg c]; omega
theorem on_l {x : Int} {h : yH} : ∀ (m k n : Nat) (a : Int), m + k = 16 → m < n → 0 ≤ a ∧ a ≤ k → xl_X12_ones n 4 [x, a, (k : Int)] h = some (a + ocN x m k, h) := by
  intro m
  induction m with
  | zero =>
    intro k n a e1 e2 e3
    obtain ⟨n, rfl⟩ : ∃ n', n = n' + 1 := ⟨n - 1, by omega⟩
    rw [e_X12_ones_4, if_neg (by omega)]
    show _ = some (a + 0, h)
    rw [Int.add_zero]
  | succ m ih =>
    intro k n a e1 e2 e3
    obtain ⟨n, rfl⟩ : ∃ n', n = n' + 1 := ⟨n - 1, by omega⟩
    have e : ocN x (m + 1) k = (if sbt x k = true then 1 else 0) + ocN x m (k + 1) := rfl
    have ek : (k : Int) + 1 = ((k + 1 : Nat) : Int) := by omega
    rw [e_X12_ones_4, if_pos (by omega), e]
    rcases sb_c (x := x) (c := k) (by omega) with ⟨c, c2⟩ | ⟨c, c2⟩
    · rw [isIn_t c, xb_some, if_neg (by decide), xg_pos (by omega), xg_pos (by omega), ek, ih (k + 1) n _ (by omega) (by omega) (by omega), if_pos c2, Int.add_assoc]
    · rw [isIn_f (by rw [c]; decide), xb_some, if_pos rfl, xg_pos (by omega), xg_pos (by omega), ek, ih (k + 1) n _ (by omega) (by omega) (by omega), c2, if_neg (by decide), Int.add_assoc]
theorem on_e {n : Nat} {x : Int} {h : yH} (hn : 17 ≤ n) : f_X12_ones n [x] h = some (ocN x 16 0, h) := by
  rw [e_X12_ones]
  have := on_l (x := x) (h := h) 16 0 n 0 rfl (by omega) (by omega)
  rw [show ((0 : Nat) : Int) = 0 from rfl] at this
  rw [this, Int.zero_add]
theorem bc9F : ∀ x : Fin 512, (-2147483648 ≤ (x.val : Int) - (yari 7 (yushr (x.val : Int) 1) 1431655765) ∧ (x.val : Int) - (yari 7 (yushr (x.val : Int) 1) 1431655765) ≤ 2147483647) ∧ (-2147483648 ≤ (yari 7 ((x.val : Int) - (yari 7 (yushr (x.val : Int) 1) 1431655765)) 858993459) + (yari 7 (yushr ((x.val : Int) - (yari 7 (yushr (x.val : Int) 1) 1431655765)) 2) 858993459) ∧ (yari 7 ((x.val : Int) - (yari 7 (yushr (x.val : Int) 1) 1431655765)) 858993459) + (yari 7 (yushr ((x.val : Int) - (yari 7 (yushr (x.val : Int) 1) 1431655765)) 2) 858993459) ≤ 2147483647) ∧ (-2147483648 ≤ ((yari 7 ((x.val : Int) - (yari 7 (yushr (x.val : Int) 1) 1431655765)) 858993459) + (yari 7 (yushr ((x.val : Int) - (yari 7 (yushr (x.val : Int) 1) 1431655765)) 2) 858993459)) + (yushr ((yari 7 ((x.val : Int) - (yari 7 (yushr (x.val : Int) 1) 1431655765)) 858993459) + (yari 7 (yushr ((x.val : Int) - (yari 7 (yushr (x.val : Int) 1) 1431655765)) 2) 858993459)) 4) ∧ ((yari 7 ((x.val : Int) - (yari 7 (yushr (x.val : Int) 1) 1431655765)) 858993459) + (yari 7 (yushr ((x.val : Int) - (yari 7 (yushr (x.val : Int) 1) 1431655765)) 2) 858993459)) + (yushr ((yari 7 ((x.val : Int) - (yari 7 (yushr (x.val : Int) 1) 1431655765)) 858993459) + (yari 7 (yushr ((x.val : Int) - (yari 7 (yushr (x.val : Int) 1) 1431655765)) 2) 858993459)) 4) ≤ 2147483647) ∧ (-2147483648 ≤ (yari 7 (((yari 7 ((x.val : Int) - (yari 7 (yushr (x.val : Int) 1) 1431655765)) 858993459) + (yari 7 (yushr ((x.val : Int) - (yari 7 (yushr (x.val : Int) 1) 1431655765)) 2) 858993459)) + (yushr ((yari 7 ((x.val : Int) - (yari 7 (yushr (x.val : Int) 1) 1431655765)) 858993459) + (yari 7 (yushr ((x.val : Int) - (yari 7 (yushr (x.val : Int) 1) 1431655765)) 2) 858993459)) 4)) 252645135) + (yushr (yari 7 (((yari 7 ((x.val : Int) - (yari 7 (yushr (x.val : Int) 1) 1431655765)) 858993459) + (yari 7 (yushr ((x.val : Int) - (yari 7 (yushr (x.val : Int) 1) 1431655765)) 2) 858993459)) + (yushr ((yari 7 ((x.val : Int) - (yari 7 (yushr (x.val : Int) 1) 1431655765)) 858993459) + (yari 7 (yushr ((x.val : Int) - (yari 7 (yushr (x.val : Int) 1) 1431655765)) 2) 858993459)) 4)) 252645135) 8) ∧ (yari 7 (((yari 7 ((x.val : Int) - (yari 7 (yushr (x.val : Int) 1) 1431655765)) 858993459) + (yari 7 (yushr ((x.val : Int) - (yari 7 (yushr (x.val : Int) 1) 1431655765)) 2) 858993459)) + (yushr ((yari 7 ((x.val : Int) - (yari 7 (yushr (x.val : Int) 1) 1431655765)) 858993459) + (yari 7 (yushr ((x.val : Int) - (yari 7 (yushr (x.val : Int) 1) 1431655765)) 2) 858993459)) 4)) 252645135) + (yushr (yari 7 (((yari 7 ((x.val : Int) - (yari 7 (yushr (x.val : Int) 1) 1431655765)) 858993459) + (yari 7 (yushr ((x.val : Int) - (yari 7 (yushr (x.val : Int) 1) 1431655765)) 2) 858993459)) + (yushr ((yari 7 ((x.val : Int) - (yari 7 (yushr (x.val : Int) 1) 1431655765)) 858993459) + (yari 7 (yushr ((x.val : Int) - (yari 7 (yushr (x.val : Int) 1) 1431655765)) 2) 858993459)) 4)) 252645135) 8) ≤ 2147483647) ∧ (-2147483648 ≤ ((yari 7 (((yari 7 ((x.val : Int) - (yari 7 (yushr (x.val : Int) 1) 1431655765)) 858993459) + (yari 7 (yushr ((x.val : Int) - (yari 7 (yushr (x.val : Int) 1) 1431655765)) 2) 858993459)) + (yushr ((yari 7 ((x.val : Int) - (yari 7 (yushr (x.val : Int) 1) 1431655765)) 858993459) + (yari 7 (yushr ((x.val : Int) - (yari 7 (yushr (x.val : Int) 1) 1431655765)) 2) 858993459)) 4)) 252645135) + (yushr (yari 7 (((yari 7 ((x.val : Int) - (yari 7 (yushr (x.val : Int) 1) 1431655765)) 858993459) + (yari 7 (yushr ((x.val : Int) - (yari 7 (yushr (x.val : Int) 1) 1431655765)) 2) 858993459)) + (yushr ((yari 7 ((x.val : Int) - (yari 7 (yushr (x.val : Int) 1) 1431655765)) 858993459) + (yari 7 (yushr ((x.val : Int) - (yari 7 (yushr (x.val : Int) 1) 1431655765)) 2) 858993459)) 4)) 252645135) 8)) + (yushr ((yari 7 (((yari 7 ((x.val : Int) - (yari 7 (yushr (x.val : Int) 1) 1431655765)) 858993459) + (yari 7 (yushr ((x.val : Int) - (yari 7 (yushr (x.val : Int) 1) 1431655765)) 2) 858993459)) + (yushr ((yari 7 ((x.val : Int) - (yari 7 (yushr (x.val : Int) 1) 1431655765)) 858993459) + (yari 7 (yushr ((x.val : Int) - (yari 7 (yushr (x.val : Int) 1) 1431655765)) 2) 858993459)) 4)) 252645135) + (yushr (yari 7 (((yari 7 ((x.val : Int) - (yari 7 (yushr (x.val : Int) 1) 1431655765)) 858993459) + (yari 7 (yushr ((x.val : Int) - (yari 7 (yushr (x.val : Int) 1) 1431655765)) 2) 858993459)) + (yushr ((yari 7 ((x.val : Int) - (yari 7 (yushr (x.val : Int) 1) 1431655765)) 858993459) + (yari 7 (yushr ((x.val : Int) - (yari 7 (yushr (x.val : Int) 1) 1431655765)) 2) 858993459)) 4)) 252645135) 8)) 16) ∧ ((yari 7 (((yari 7 ((x.val : Int) - (yari 7 (yushr (x.val : Int) 1) 1431655765)) 858993459) + (yari 7 (yushr ((x.val : Int) - (yari 7 (yushr (x.val : Int) 1) 1431655765)) 2) 858993459)) + (yushr ((yari 7 ((x.val : Int) - (yari 7 (yushr (x.val : Int) 1) 1431655765)) 858993459) + (yari 7 (yushr ((x.val : Int) - (yari 7 (yushr (x.val : Int) 1) 1431655765)) 2) 858993459)) 4)) 252645135) + (yushr (yari 7 (((yari 7 ((x.val : Int) - (yari 7 (yushr (x.val : Int) 1) 1431655765)) 858993459) + (yari 7 (yushr ((x.val : Int) - (yari 7 (yushr (x.val : Int) 1) 1431655765)) 2) 858993459)) + (yushr ((yari 7 ((x.val : Int) - (yari 7 (yushr (x.val : Int) 1) 1431655765)) 858993459) + (yari 7 (yushr ((x.val : Int) - (yari 7 (yushr (x.val : Int) 1) 1431655765)) 2) 858993459)) 4)) 252645135) 8)) + (yushr ((yari 7 (((yari 7 ((x.val : Int) - (yari 7 (yushr (x.val : Int) 1) 1431655765)) 858993459) + (yari 7 (yushr ((x.val : Int) - (yari 7 (yushr (x.val : Int) 1) 1431655765)) 2) 858993459)) + (yushr ((yari 7 ((x.val : Int) - (yari 7 (yushr (x.val : Int) 1) 1431655765)) 858993459) + (yari 7 (yushr ((x.val : Int) - (yari 7 (yushr (x.val : Int) 1) 1431655765)) 2) 858993459)) 4)) 252645135) + (yushr (yari 7 (((yari 7 ((x.val : Int) - (yari 7 (yushr (x.val : Int) 1) 1431655765)) 858993459) + (yari 7 (yushr ((x.val : Int) - (yari 7 (yushr (x.val : Int) 1) 1431655765)) 2) 858993459)) + (yushr ((yari 7 ((x.val : Int) - (yari 7 (yushr (x.val : Int) 1) 1431655765)) 858993459) + (yari 7 (yushr ((x.val : Int) - (yari 7 (yushr (x.val : Int) 1) 1431655765)) 2) 858993459)) 4)) 252645135) 8)) 16) ≤ 2147483647) ∧ (yari 7 (((yari 7 (((yari 7 ((x.val : Int) - (yari 7 (yushr (x.val : Int) 1) 1431655765)) 858993459) + (yari 7 (yushr ((x.val : Int) - (yari 7 (yushr (x.val : Int) 1) 1431655765)) 2) 858993459)) + (yushr ((yari 7 ((x.val : Int) - (yari 7 (yushr (x.val : Int) 1) 1431655765)) 858993459) + (yari 7 (yushr ((x.val : Int) - (yari 7 (yushr (x.val : Int) 1) 1431655765)) 2) 858993459)) 4)) 252645135) + (yushr (yari 7 (((yari 7 ((x.val : Int) - (yari 7 (yushr (x.val : Int) 1) 1431655765)) 858993459) + (yari 7 (yushr ((x.val : Int) - (yari 7 (yushr (x.val : Int) 1) 1431655765)) 2) 858993459)) + (yushr ((yari 7 ((x.val : Int) - (yari 7 (yushr (x.val : Int) 1) 1431655765)) 858993459) + (yari 7 (yushr ((x.val : Int) - (yari 7 (yushr (x.val : Int) 1) 1431655765)) 2) 858993459)) 4)) 252645135) 8)) + (yushr ((yari 7 (((yari 7 ((x.val : Int) - (yari 7 (yushr (x.val : Int) 1) 1431655765)) 858993459) + (yari 7 (yushr ((x.val : Int) - (yari 7 (yushr (x.val : Int) 1) 1431655765)) 2) 858993459)) + (yushr ((yari 7 ((x.val : Int) - (yari 7 (yushr (x.val : Int) 1) 1431655765)) 858993459) + (yari 7 (yushr ((x.val : Int) - (yari 7 (yushr (x.val : Int) 1) 1431655765)) 2) 858993459)) 4)) 252645135) + (yushr (yari 7 (((yari 7 ((x.val : Int) - (yari 7 (yushr (x.val : Int) 1) 1431655765)) 858993459) + (yari 7 (yushr ((x.val : Int) - (yari 7 (yushr (x.val : Int) 1) 1431655765)) 2) 858993459)) + (yushr ((yari 7 ((x.val : Int) - (yari 7 (yushr (x.val : Int) 1) 1431655765)) 858993459) + (yari 7 (yushr ((x.val : Int) - (yari 7 (yushr (x.val : Int) 1) 1431655765)) 2) 858993459)) 4)) 252645135) 8)) 16)) 63) = ocN (x.val : Int) 16 0 := by decide +kernel
theorem bc9_e {n : Nat} {x : Int} {h : yH} (hx : 0 ≤ x ∧ x ≤ 511) : f_J6_bitCount_0f7a4 n [x] h = some (ocN x 16 0, h) := by
  obtain ⟨k, rfl⟩ : ∃ k : Fin 512, x = (k.val : Int) := ⟨⟨x.toNat, by omega⟩, by simp only; omega⟩
  obtain ⟨g0, g1, g2, g3, g4, v⟩ := bc9F k
  rw [e_J6_bitCount_0f7a4, xg_pos g0, xg_pos g1, xg_pos g2, xg_pos g3, xg_pos g4, v]
theorem i32_n (x : Nat) : (Int32.ofInt (x : Int)).toBitVec = BitVec.ofNat 32 x := by
  show BitVec.ofInt 32 (x : Int) = BitVec.ofNat 32 x
  first | exact BitVec.ofInt_natCast 32 x | exact BitVec.ofInt_ofNat
theorem r9F : ∀ x : Fin 512, (Int32.ofInt (x.val : Int)).toInt = (x.val : Int) := by decide +kernel
theorem or_n {x z : Nat} (hx : x < 512) (hz : z < 512) : yari 8 (x : Int) (z : Int) = ((x ||| z : Nat) : Int) := by
  have e : (Int32.ofInt (x : Int) ||| Int32.ofInt (z : Int)) = Int32.ofInt ((x ||| z : Nat) : Int) := by
    apply Int32.toBitVec_inj.mp
    rw [Int32.toBitVec_or, i32_n, i32_n, i32_n]
    apply BitVec.eq_of_toNat_eq
    have b : x ||| z < 512 := Nat.or_lt_two_pow (n := 9) hx hz
    rw [BitVec.toNat_or, BitVec.toNat_ofNat, BitVec.toNat_ofNat, BitVec.toNat_ofNat, Nat.mod_eq_of_lt (by omega), Nat.mod_eq_of_lt (by omega), Nat.mod_eq_of_lt (by omega)]
  show (Int32.ofInt (x : Int) ||| Int32.ofInt (z : Int)).toInt = _
  rw [e]
  exact r9F ⟨x ||| z, Nat.or_lt_two_pow (n := 9) hx hz⟩
/-- two sets together -/
theorem or9b {x z : Int} (hx : 0 ≤ x ∧ x ≤ 511) (hz : 0 ≤ z ∧ z ≤ 511) : x ≤ yari 8 x z ∧ yari 8 x z ≤ 511 := by
  obtain ⟨a, rfl⟩ : ∃ a : Nat, x = (a : Int) := ⟨x.toNat, by omega⟩
  obtain ⟨b, rfl⟩ : ∃ b : Nat, z = (b : Int) := ⟨z.toNat, by omega⟩
  have l : a ≤ a ||| b := Nat.left_le_or
  have u : a ||| b < 512 := Nat.or_lt_two_pow (n := 9) (by omega) (by omega)
  rw [or_n (by omega) (by omega)]
  omega
theorem tbF : ∀ x : Fin 512, ∀ c : Fin 32, sbt (x.val : Int) c.val = Nat.testBit x.val c.val := by decide +kernel
/-- the bits tell the set -/
theorem sb_x {x y : Int} (hx : 0 ≤ x ∧ x ≤ 511) (hy : 0 ≤ y ∧ y ≤ 511) (h : ∀ c, c < 32 → (sbt x c = true ↔ sbt y c = true)) : x = y := by
  obtain ⟨a, rfl⟩ : ∃ a : Nat, x = (a : Int) := ⟨x.toNat, by omega⟩
  obtain ⟨b, rfl⟩ : ∃ b : Nat, y = (b : Int) := ⟨y.toNat, by omega⟩
  have e : a = b := by
    apply Nat.eq_of_testBit_eq
    intro i
    by_cases q : i < 32
    · have t1 := tbF ⟨a, by omega⟩ ⟨i, q⟩
      have t2 := tbF ⟨b, by omega⟩ ⟨i, q⟩
      simp only at t1 t2
      rw [← t1, ← t2]
      have k := h i q
      cases e1 : sbt (a : Int) i with
      | true => exact (k.mp e1).symm
      | false =>
        cases e2 : sbt (b : Int) i with
        | false => rfl
        | true =>
          rw [k.mpr e2] at e1
          cases e1
    · have p : 512 ≤ 2 ^ i := by
        have : 2 ^ 9 ≤ 2 ^ i := Nat.pow_le_pow_right (by decide) (by omega)
        omega
      rw [Nat.testBit_lt_two_pow (by omega), Nat.testBit_lt_two_pow (by omega)]
  rw [e]
end
section
/-! sure couples: both sides -/
def clE (t : Nat → Int) (E : Nat → Nat → Prop) : Prop := (∀ k c : Nat, (k : Int) < t 0 → c < 32 → sbt (bf t k) c = true → E k c) ∧ ∀ k i c : Nat, (k : Int) < t 0 → (i : Int) < t 0 → c < 32 → E k i → E i c → E k c
theorem bf_b {t : Nat → Int} (hW : tW2 t) {j : Nat} : 0 ≤ bf t j ∧ bf t j ≤ 511 := bfT_b hW _ (by have := hW.2.1; omega) j
/-- the class: one saying, its earlier ones looked at up to j -/
def suI (t : Nat → Int) (i k j : Nat) (h0 h : yH) : Prop := (∀ a b, ¬ (a = 183 ∧ b = k) → h a b = h0 a b) ∧ (0 ≤ h 183 k ∧ h 183 k ≤ 511) ∧ (∀ c, c < 32 → sbt (bf t k) c = true → sbt (h 183 k) c = true) ∧ (∀ c, c < 32 → sbt (h 183 k) c = true → ∃ j', j' < i ∧ odV t j' = (c : Int)) ∧ (∀ E, clE t E → ∀ c, c < 32 → sbt (h 183 k) c = true → E k c) ∧ ∀ j' y : Nat, j' < j → odV t j' = (y : Int) → sbt (h 183 k) y = true → ∀ c, c < 32 → sbt (h0 183 y) c = true → sbt (h 183 k) c = true
/-- the class: the first i are done -/
def scI (t : Nat → Int) (i : Nat) (h : yH) : Prop := (∀ j x : Nat, j < i → odV t j = (x : Int) → (0 ≤ h 183 x ∧ h 183 x ≤ 511) ∧ (∀ c, c < 32 → sbt (bf t x) c = true → sbt (h 183 x) c = true) ∧ (∀ c, c < 32 → sbt (h 183 x) c = true → ∃ j', j' < j ∧ odV t j' = (c : Int)) ∧ (∀ y c : Nat, y < 32 → c < 32 → sbt (h 183 x) y = true → sbt (h 183 y) c = true → sbt (h 183 x) c = true) ∧ ∀ E, clE t E → ∀ c, c < 32 → sbt (h 183 x) c = true → E x c) ∧ ∀ j x : Nat, i ≤ j → (j : Int) < t 0 → odV t j = (x : Int) → h 183 x = bf t x
theorem sc33_l {b i k : Nat} {acc : Int} {t : Nat → Int} {h0 : yH} (hW : tW2 t) (ho : odR t) (hi : (i : Int) < t 0) (hk : odV t i = (k : Int)) (C : scI t i h0) (A4 : ∀ j : Nat, (j : Int) < t 0 → h0 184 j = odV t j) (o : cPo h0) : ∀ (mm j n : Nat) (h : yH), mm + j = i → mm ≤ n → suI t i k j h0 h →
    ∃ n' h2, xl_X3_sureCouples n 33 [180, (b : Int), acc, (i : Int), (k : Int), (j : Int)] h = xl_X3_sureCouples n' 33 [180, (b : Int), acc, (i : Int), (k : Int), (i : Int)] h2 ∧ n = n' + mm ∧ suI t i k i h0 h2 := by
  have w0 := hW.1
  intro mm
  induction mm with
  | zero =>
    intro j n h e1 e2 I
    have ej : j = i := by omega
    subst ej
    exact ⟨n, h, rfl, by omega, I⟩
  | succ mm ih =>
    intro j n h e1 e2 I
    obtain ⟨n, rfl⟩ : ∃ n', n = n' + 1 := ⟨n - 1, by omega⟩
    obtain ⟨I1, I2, I3, I4, I5, I6⟩ := id I
    obtain ⟨y, y1, y2, -⟩ := od_c hW (ho j (by omega))
    have kb : (k : Int) < t 0 := by
      obtain ⟨x, x1, x2, -⟩ := od_c hW (ho i hi)
      omega
    have yk : y ≠ k := fun w => absurd (od_i hW ho (i := j) (j := i) (by omega) hi (by omega)) (by omega)
    obtain ⟨D1, D2, D3, D4, D5⟩ := C.1 j y (by omega) y1
    have oh : cPo h := o.fr (fun j _ => I1 _ _ (by omega))
    have a4 : h 184 j = (y : Int) := by rw [I1 _ _ (by omega), A4 j (by omega), y1]
    have hy : h 183 y = h0 183 y := I1 _ _ (by omega)
    have ej : (j : Int) + 1 = ((j + 1 : Nat) : Int) := by omega
    rw [e_X3_sureCouples_33, if_pos (by omega), xg_pos oh.2.2.1, xg_pos (by omega), xg_pos oh.2.2.2.1, xg_pos (by omega), Int.toNat_natCast, Int.toNat_natCast, a4]
    rcases sb_c (x := h 183 k) (c := y) (by omega) with ⟨c, c2⟩ | ⟨c, c2⟩
    · have ob := or9b I2 D1
      have I' : suI t i k (j + 1) h0 (zup h 183 k (yari 8 (h 183 k) (h0 183 y))) := by
        refine ⟨fun a b w => by rw [zup_ne w]; exact I1 a b w, by rw [zup_at]; omega, fun c hc hb => ?_, fun c hc hb => ?_, fun E hE c hc hb => ?_, fun j' z q1 q2 q3 c hc hb => ?_⟩
        · rw [zup_at, sb_o, I3 c hc hb, Bool.true_or]
        · rw [zup_at, sb_o, Bool.or_eq_true] at hb
          rcases hb with hb | hb
          · exact I4 c hc hb
          · obtain ⟨j', v1, v2⟩ := D3 c hc hb
            exact ⟨j', by omega, v2⟩
        · rw [zup_at, sb_o, Bool.or_eq_true] at hb
          rcases hb with hb | hb
          · exact I5 E hE c hc hb
          · exact hE.2 k y c kb y2 hc (I5 E hE y (by omega) c2) (D5 E hE c hc hb)
        · rw [zup_at, sb_o, Bool.or_eq_true] at q3 ⊢
          by_cases zj : j' = j
          · rw [zj] at q2
            have zy : z = y := by omega
            rw [zy] at hb
            exact Or.inr hb
          · have zb : z < 32 := by
              obtain ⟨z', z1, z2, -⟩ := od_c hW (ho j' (by omega))
              omega
            rcases q3 with q3 | q3
            · exact Or.inl (I6 j' z (by omega) q2 q3 c hc hb)
            · exact Or.inr (D4 z c zb hc q3 hb)
      obtain ⟨n', h2, f1, f2, f3⟩ := ih (j + 1) n _ (by omega) (by omega) I'
      refine ⟨n', h2, ?_, by omega, f3⟩
      rw [if_pos c, xg_pos oh.2.2.1, xg_pos (by omega), xg_pos oh.2.2.1, xg_pos oh.2.2.2.1, xg_pos (by omega), xg_pos (by omega), xg_pos (by omega), xg_pos (by omega), Int.toNat_natCast, hy, ej]
      exact f1
    · obtain ⟨n', h2, f1, f2, f3⟩ := ih (j + 1) n h (by omega) (by omega) ⟨I1, I2, I3, I4, I5, fun j' z q1 q2 q3 => by
        by_cases zj : j' = j
        · rw [zj] at q2
          have zy : z = y := by omega
          rw [zy, c2] at q3
          cases q3
        · exact I6 j' z (by omega) q2 q3⟩
      refine ⟨n', h2, ?_, by omega, f3⟩
      rw [if_neg (by rw [c]; decide), xg_pos (by omega), ej]
      exact f1
theorem sc14_l {b : Nat} {t : Nat → Int} (hW : tW2 t) (ho : odR t) : ∀ (mm i n : Nat) (h : yH), (mm : Int) + i = t 0 → 20 * mm + 20 ≤ n → oC b t h → (∀ j : Nat, (j : Int) < t 0 → h 184 j = odV t j) → scI t i h →
    ∃ h2, xl_X3_sureCouples n 14 [180, (b : Int), smA (fun j => ocN (h 183 (odV t j).toNat) 16 0) i, (i : Int)] h = some (smA (fun j => ocN (h2 183 (odV t j).toNat) 16 0) (t 0).toNat, h2) ∧ (∀ a j, a ≠ 183 → h2 a j = h a j) ∧ scI t (t 0).toNat h2 := by
  have w0 := hW.1
  intro mm
  induction mm with
  | zero =>
    intro i n h e1 e2 H A C
    obtain ⟨n, rfl⟩ : ∃ n', n = n' + 1 := ⟨n - 1, by omega⟩
    have ei : (t 0).toNat = i := by omega
    refine ⟨h, ?_, fun _ _ _ => rfl, by rw [ei]; exact C⟩
    rw [e_X3_sureCouples_14, Int.toNat_natCast, H.2.1.1, if_neg (by omega), ei]
  | succ mm ih =>
    intro i n h e1 e2 H A C
    obtain ⟨n, rfl⟩ : ∃ n', n = n' + 1 := ⟨n - 1, by omega⟩
    obtain ⟨k, k1, k2, -⟩ := od_c hW (ho i (by omega))
    have hk : h 183 k = bf t k := C.2 i k (Nat.le_refl _) (by omega) k1
    have bb := bf_b hW (j := k)
    obtain ⟨n1, h1, p1, p2, p3⟩ := sc33_l (b := b) (acc := smA (fun j => ocN (h 183 (odV t j).toNat) 16 0) i) hW ho (show (i : Int) < t 0 by omega) k1 C A H.2.2.2 i 0 n h rfl (by omega) ⟨fun _ _ _ => rfl, by rw [hk]; exact bb, fun c _ hb => by rw [hk]; exact hb, fun c hc hb => by
      rw [hk] at hb
      exact od_b hW ho (by omega) k1 hc hb, fun E hE c hc hb => by
      rw [hk] at hb
      exact hE.1 k c k2 hc hb, fun j' y q => by omega⟩
    obtain ⟨I1, I2, I3, I4, I5, I6⟩ := p3
    have ne : ∀ j x : Nat, j ≠ i → (j : Int) < t 0 → odV t j = (x : Int) → x ≠ k := fun j x q1 q2 q3 w => q1 (od_i hW ho q2 (by omega) (by omega))
    have C' : scI t (i + 1) h1 := by
      refine ⟨fun j x q1 q2 => ?_, fun j x q1 q2 q3 => ?_⟩
      · by_cases z : j = i
        · rw [z] at q2
          have zx : x = k := by omega
          rw [zx, z]
          refine ⟨I2, I3, I4, fun y c hy hc b1 b2 => ?_, I5⟩
          obtain ⟨j', v1, v2⟩ := I4 y hy b1
          have yk : y ≠ k := ne j' y (by omega) (by omega) v2
          rw [I1 183 y (by omega)] at b2
          exact I6 j' y v1 v2 b1 c hc b2
        · have xk := ne j x z (by omega) q2
          obtain ⟨D1, D2, D3, D4, D5⟩ := C.1 j x (by omega) q2
          rw [I1 183 x (by omega)]
          refine ⟨D1, D2, D3, fun y c hy hc b1 b2 => ?_, D5⟩
          obtain ⟨j', v1, v2⟩ := D3 y hy b1
          have yk : y ≠ k := ne j' y (by omega) (by omega) v2
          rw [I1 183 y (by omega)] at b2
          exact D4 y c hy hc b1 b2
      · have xk := ne j x (by omega) q2 q3
        rw [I1 183 x (by omega)]
        exact C.2 j x (by omega) q2 q3
    obtain ⟨h2, f1, f2, f3⟩ := ih (i + 1) (n1 - 1) h1 (by omega) (by omega) (H.fr (fun a j w => I1 a j (by omega))) (fun j hj => (I1 _ _ (by omega)).trans (A j hj)) C'
    obtain ⟨n2, en⟩ : ∃ n2, n1 = n2 + 1 := ⟨n1 - 1, by omega⟩
    have eS : smA (fun j => ocN (h1 183 (odV t j).toNat) 16 0) (i + 1) = smA (fun j => ocN (h 183 (odV t j).toNat) 16 0) i + ocN (h1 183 k) 16 0 := by
      show smA (fun j => ocN (h1 183 (odV t j).toNat) 16 0) i + ocN (h1 183 (odV t i).toNat) 16 0 = _
      rw [k1, Int.toNat_natCast, smA_c (f := fun j => ocN (h1 183 (odV t j).toNat) 16 0) (g := fun j => ocN (h 183 (odV t j).toNat) 16 0) i (fun j hj => by
        obtain ⟨x, x1, x2, -⟩ := od_c hW (ho j (by omega))
        have xk := ne j x (by omega) (by omega) x1
        show ocN (h1 183 (odV t j).toNat) 16 0 = ocN (h 183 (odV t j).toNat) 16 0
        rw [x1, Int.toNat_natCast, I1 183 x (by omega)])]
    have sb := smA_b (f := fun j => ocN (h 183 (odV t j).toNat) 16 0) (B := 16) i (fun j _ => ocN_b 16 0)
    have ob := ocN_b (x := h1 183 k) 16 0
    have o1 : cPo h1 := H.2.2.2.fr (fun j _ => I1 _ _ (by omega))
    rw [show ((0 : Nat) : Int) = 0 from rfl] at p1
    refine ⟨h2, ?_, fun a j w => (f2 a j w).trans (I1 a j (by omega)), f3⟩
    rw [en] at f1
    refine Eq.trans ?_ f1
    rw [e_X3_sureCouples_14, Int.toNat_natCast, Int.toNat_natCast, H.2.1.1, if_pos (by omega), xg_pos H.2.2.2.2.2.2.1, xg_pos (by omega), A i (by omega), k1, p1, en, e_X3_sureCouples_33, if_neg (Int.lt_irrefl _), xg_pos o1.2.2.1, xg_pos (by omega), Int.toNat_natCast, bc9_e I2, xb_some, xg_pos (by omega), xg_pos (by omega), eS, show (i : Int) + 1 = ((i + 1 : Nat) : Int) by omega]
    rfl
/-! the reference -/
def fI (t : Nat → Int) (g : yH) : Prop := ∀ k : Nat, (k : Int) < t 0 → (0 ≤ g 29 k ∧ g 29 k ≤ 511) ∧ (∀ c, c < 32 → sbt (bf t k) c = true → sbt (g 29 k) c = true) ∧ ∀ E, clE t E → ∀ c, c < 32 → sbt (g 29 k) c = true → E k c
theorem sr28_l {d k : Nat} {more : Int} {t : Nat → Int} {g : yH} (hW : tW2 t) (H : oR d t g) (hk : (k : Int) < t 0) (F : fI t g) : ∀ (mm i n : Nat) (cur : Int), (mm : Int) + i = t 0 → mm ≤ n → (0 ≤ cur ∧ cur ≤ 511) →
    ∃ n' z, xl_X12_sureCouples n 28 [35, more, (k : Int), cur, (i : Int)] g = xl_X12_sureCouples n' 28 [35, more, (k : Int), z, t 0] g ∧ n = n' + mm ∧ (cur ≤ z ∧ z ≤ 511) ∧ (∀ c, c < 32 → sbt cur c = true → sbt z c = true) ∧ (∀ E, clE t E → (∀ c, c < 32 → sbt cur c = true → E k c) → ∀ c, c < 32 → sbt z c = true → E k c) ∧ (z = cur → ∀ x : Nat, i ≤ x → (x : Int) < t 0 → sbt cur x = true → ∀ c, c < 32 → sbt (g 29 x) c = true → sbt cur c = true) := by
  have w0 := hW.1
  intro mm
  induction mm with
  | zero =>
    intro i n cur e1 e2 hc
    exact ⟨n, cur, by rw [show (i : Int) = t 0 by omega], by omega, by omega, fun _ _ h => h, fun E _ h => h, fun _ x q1 q2 => by omega⟩
  | succ mm ih =>
    intro i n cur e1 e2 hc
    obtain ⟨n, rfl⟩ : ∃ n', n = n' + 1 := ⟨n - 1, by omega⟩
    have ei : (i : Int) + 1 = ((i + 1 : Nat) : Int) := by omega
    obtain ⟨F1, F2, F3⟩ := F i (by omega)
    rw [e_X12_sureCouples_28, H.2.2.2.1, if_pos (by omega)]
    rcases sb_c (x := cur) (c := i) (by omega) with ⟨c, c2⟩ | ⟨c, c2⟩
    · have ob := or9b hc F1
      obtain ⟨n', z, f1, f2, f3, f4, f5, f6⟩ := ih (i + 1) n (yari 8 cur (g 29 i)) (by omega) (by omega) (by omega)
      rw [isIn_t c, xb_some, if_neg (by decide), xg_pos (H.2.1.p (j := 58) (k := 29) (by decide)), xg_pos (by omega), xg_pos (by omega), Int.toNat_natCast, ei]
      refine ⟨n', z, f1, by omega, by omega, fun c hc hb => f4 c hc (by rw [sb_o, hb, Bool.true_or]), fun E hE hb => f5 E hE (fun c hc h2 => ?_), fun ez x q1 q2 q3 c hc hb => ?_⟩
      · rw [sb_o, Bool.or_eq_true] at h2
        rcases h2 with h2 | h2
        · exact hb c hc h2
        · exact hE.2 k i c hk (by omega) hc (hb i (by omega) c2) (F3 E hE c hc h2)
      · have e1' : yari 8 cur (g 29 i) = cur := by omega
        rw [e1'] at f6
        by_cases y : x = i
        · have : sbt (yari 8 cur (g 29 i)) c = true := by rw [sb_o, ← y, hb, Bool.or_true]
          rw [e1'] at this
          exact this
        · exact f6 ez x (by omega) q2 q3 c hc hb
    · obtain ⟨n', z, f1, f2, f3, f4, f5, f6⟩ := ih (i + 1) n cur (by omega) (by omega) hc
      rw [isIn_f (by rw [c]; decide), xb_some, if_pos rfl, xg_pos (by omega), or0' hc, ei]
      refine ⟨n', z, f1, by omega, f3, f4, f5, fun ez x q1 q2 q3 => ?_⟩
      by_cases y : x = i
      · rw [y, c2] at q3
        cases q3
      · exact f6 ez x (by omega) q2 q3
def smG (t : Nat → Int) (g : yH) : Int := smA (fun k => g 29 k) (t 0).toNat
theorem sr10_l {d : Nat} {t : Nat → Int} (hW : tW2 t) : ∀ (mm k n : Nat) (more : Int) (g : yH), (mm : Int) + k = t 0 → 12 * mm + 2 ≤ n → (more = 0 ∨ more = 1) → oR d t g → fI t g →
    ∃ n' more' g2, xl_X12_sureCouples n 10 [35, more, (k : Int)] g = xl_X12_sureCouples n' 2 [35, more'] g2 ∧ n ≤ n' + 12 * mm + 1 ∧ (∀ i j, i ≠ 29 → g2 i j = g i j) ∧ fI t g2 ∧ (more' = 0 ∨ more' = 1) ∧ smG t g ≤ smG t g2 ∧ (more = 0 → more' = 1 → smG t g + 1 ≤ smG t g2) ∧ (more' = 0 → more = 0 ∧ (∀ j, g2 29 j = g 29 j) ∧ ∀ x i : Nat, k ≤ x → (x : Int) < t 0 → (i : Int) < t 0 → sbt (g 29 x) i = true → ∀ c, c < 32 → sbt (g 29 i) c = true → sbt (g 29 x) c = true) := by
  have w0 := hW.1
  intro mm
  induction mm with
  | zero =>
    intro k n more g e1 e2 hm H F
    obtain ⟨n, rfl⟩ : ∃ n', n = n' + 1 := ⟨n - 1, by omega⟩
    refine ⟨n, more, g, ?_, by omega, fun _ _ _ => rfl, F, hm, Int.le_refl _, fun w1 w2 => by omega, fun w => ⟨w, fun _ => rfl, fun x i q1 q2 => by omega⟩⟩
    rw [e_X12_sureCouples_10, H.2.2.2.1, if_neg (by omega)]
  | succ mm ih =>
    intro k n more g e1 e2 hm H F
    obtain ⟨n, rfl⟩ : ∃ n', n = n' + 1 := ⟨n - 1, by omega⟩
    obtain ⟨F1, F2, F3⟩ := F k (by omega)
    have p58 := H.2.1.p (j := 58) (k := 29) (by decide)
    obtain ⟨n1, z, a1, a2, a3, a4, a5, a6⟩ := sr28_l (more := more) hW H (show (k : Int) < t 0 by omega) F (t 0).toNat 0 n (g 29 k) (by omega) (by omega) F1
    obtain ⟨n2, en⟩ : ∃ n2, n1 = n2 + 1 := ⟨n1 - 1, by omega⟩
    have ek : (k : Int) + 1 = ((k + 1 : Nat) : Int) := by omega
    have F' : fI t (zup g 29 k z) := fun x hx => by
      by_cases y : x = k
      · rw [y, zup_at]
        exact ⟨by omega, fun c hc hb => a4 c hc (F2 c hc hb), fun E hE => a5 E hE (F3 E hE)⟩
      · rw [zup_ne (by omega)]
        exact F x hx
    have sm : smG t (zup g 29 k z) = smG t g + (z - g 29 k) := smA_1 (x := k) _ (by omega) (by rw [zup_at]; omega) (fun j _ hj => zup_ne (by omega))
    have H' : oR d t (zup g 29 k z) := H.fr (fun a j w => zup_ne (by omega))
    -- behind the inner loop
    have key : ∀ m1 : Int, (m1 = 0 ∨ m1 = 1) → xl_X12_sureCouples (n + 1) 10 [35, more, (k : Int)] g = xl_X12_sureCouples n2 10 [35, m1, ((k + 1 : Nat) : Int)] (zup g 29 k z) → (m1 = 0 → more = 0 ∧ z = g 29 k) → (more = 0 → m1 = 1 → z ≠ g 29 k) →
        ∃ n' more' g2, xl_X12_sureCouples (n + 1) 10 [35, more, (k : Int)] g = xl_X12_sureCouples n' 2 [35, more'] g2 ∧ n + 1 ≤ n' + 12 * (mm + 1) + 1 ∧ (∀ i j, i ≠ 29 → g2 i j = g i j) ∧ fI t g2 ∧ (more' = 0 ∨ more' = 1) ∧ smG t g ≤ smG t g2 ∧ (more = 0 → more' = 1 → smG t g + 1 ≤ smG t g2) ∧ (more' = 0 → more = 0 ∧ (∀ j, g2 29 j = g 29 j) ∧ ∀ x i : Nat, k ≤ x → (x : Int) < t 0 → (i : Int) < t 0 → sbt (g 29 x) i = true → ∀ c, c < 32 → sbt (g 29 i) c = true → sbt (g 29 x) c = true) := fun m1 h1 h2 h3 h4 => by
      obtain ⟨n', more', g2, f1, f2, f3, f4, f5, f6, f7, f8⟩ := ih (k + 1) n2 m1 (zup g 29 k z) (by omega) (by omega) h1 H' F'
      refine ⟨n', more', g2, h2.trans f1, by omega, fun i j w => by rw [f3 i j w, zup_ne (by omega)], f4, f5, by omega, fun w1 w2 => ?_, fun w => ?_⟩
      · rcases h1 with h1 | h1
        · have := f7 h1 w2
          omega
        · have := h4 w1 h1
          omega
      · obtain ⟨v1, v2, v3⟩ := f8 w
        obtain ⟨v4, v5⟩ := h3 v1
        have eg : ∀ j, zup g 29 k z 29 j = g 29 j := fun j => by
          by_cases y : j = k
          · rw [y, zup_at, v5]
          · rw [zup_ne (by omega)]
        refine ⟨v4, fun j => (v2 j).trans (eg j), fun x i q1 q2 q3 q4 c hc q5 => ?_⟩
        by_cases y : x = k
        · rw [y] at q4 ⊢
          exact a6 v5 i (Nat.zero_le _) q3 q4 c hc q5
        · have := v3 x i (by omega) q2 q3 (by rw [eg]; exact q4) c hc (by rw [eg]; exact q5)
          rw [eg] at this
          exact this
    have st : xl_X12_sureCouples (n + 1) 10 [35, more, (k : Int)] g = xl_X12_sureCouples n1 28 [35, more, (k : Int), z, t 0] g := by
      rw [show ((0 : Nat) : Int) = 0 from rfl] at a1
      rw [e_X12_sureCouples_10, H.2.2.2.1, if_pos (by omega), xg_pos p58, xg_pos (by omega), Int.toNat_natCast, a1]
    rw [en, e_X12_sureCouples_28, H.2.2.2.1, if_neg (Int.lt_irrefl _)] at st
    by_cases c : more = 0
    · rw [if_pos c, xg_pos p58, xg_pos (by omega), Int.toNat_natCast] at st
      by_cases c2 : z = g 29 k
      · rw [if_pos c2, xg_pos p58, xg_pos (by omega), xg_pos (by omega), xg_pos (by omega), ek] at st
        exact key 0 (Or.inl rfl) st (fun _ => ⟨c, c2⟩) (fun _ w => by omega)
      · rw [if_neg c2, xg_pos p58, xg_pos (by omega), xg_pos (by omega), xg_pos (by omega), ek] at st
        exact key 1 (Or.inr rfl) st (fun w => by omega) (fun _ _ => c2)
    · rw [if_neg c, xg_pos p58, xg_pos (by omega), xg_pos (by omega), xg_pos (by omega), Int.toNat_natCast, ek] at st
      exact key 1 (Or.inr rfl) st (fun w => by omega) (fun w => absurd w c)
theorem sr2_l {d : Nat} {t : Nat → Int} (hW : tW2 t) : ∀ (M n : Nat) (g : yH), 4600 ≤ (M : Int) + smG t g → 120 * M + 120 ≤ n → oR d t g → fI t g →
    ∃ n' g2, xl_X12_sureCouples n 2 [35, 1] g = xl_X12_sureCouples n' 2 [35, 0] g2 ∧ n ≤ n' + 120 * M ∧ (∀ i j, i ≠ 29 → g2 i j = g i j) ∧ fI t g2 ∧ ∀ x i : Nat, (x : Int) < t 0 → (i : Int) < t 0 → sbt (g2 29 x) i = true → ∀ c, c < 32 → sbt (g2 29 i) c = true → sbt (g2 29 x) c = true := by
  have w0 := hW.1
  intro M
  induction M with
  | zero =>
    intro n g e1 e2 H F
    have b := smA_b (f := fun k => g 29 k) (B := 511) (t 0).toNat (fun k hk => (F k (by omega)).1)
    unfold smG at e1
    omega
  | succ M ih =>
    intro n g e1 e2 H F
    obtain ⟨n, rfl⟩ : ∃ n', n = n' + 1 := ⟨n - 1, by omega⟩
    obtain ⟨n1, more, g1, f1, f2, f3, f4, f5, f6, f7, f8⟩ := sr10_l hW (t 0).toNat 0 n 0 g (by omega) (by omega) (Or.inl rfl) H F
    rw [show ((0 : Nat) : Int) = 0 from rfl] at f1
    have st : xl_X12_sureCouples (n + 1) 2 [35, 1] g = xl_X12_sureCouples n1 2 [35, more] g1 := by
      rw [e_X12_sureCouples_2, if_neg (by decide), f1]
    rcases f5 with f5 | f5
    · obtain ⟨-, v2, v3⟩ := f8 f5
      rw [f5] at st
      refine ⟨n1, g1, st, by omega, f3, f4, fun x i q1 q2 q3 c hc q4 => ?_⟩
      rw [v2] at q3 q4 ⊢
      exact v3 x i (Nat.zero_le _) q1 q2 q3 c hc q4
    · have := f7 rfl f5
      obtain ⟨n', g2, k1, k2, k3, k4, k5⟩ := ih n1 g1 (by omega) (by omega) (H.fr (fun a j w => f3 a j (by omega))) f4
      rw [f5] at st
      exact ⟨n', g2, st.trans k1, by omega, fun i j w => (k3 i j w).trans (f3 i j w), k4, k5⟩
theorem sr106_l {d : Nat} {x1 : Int} {t : Nat → Int} {g : yH} (hW : tW2 t) (H : oR d t g) : ∀ (mm k n : Nat), (mm : Int) + k = t 0 → mm + 20 ≤ n → xl_X12_sureCouples n 106 [35, x1, smA (fun k => ocN (g 29 k) 16 0) k, (k : Int)] g = some (smA (fun k => ocN (g 29 k) 16 0) (t 0).toNat, g) := by
  have w0 := hW.1
  intro mm
  induction mm with
  | zero =>
    intro k n e1 e2
    obtain ⟨n, rfl⟩ : ∃ n', n = n' + 1 := ⟨n - 1, by omega⟩
    rw [e_X12_sureCouples_106, H.2.2.2.1, if_neg (by omega), show (t 0).toNat = k by omega]
  | succ mm ih =>
    intro k n e1 e2
    obtain ⟨n, rfl⟩ : ∃ n', n = n' + 1 := ⟨n - 1, by omega⟩
    have nx := ih (k + 1) n (by omega) (by omega)
    have e : smA (fun k => ocN (g 29 k) 16 0) (k + 1) = smA (fun k => ocN (g 29 k) 16 0) k + ocN (g 29 k) 16 0 := rfl
    have sb := smA_b (f := fun k => ocN (g 29 k) 16 0) (B := 16) k (fun j _ => ocN_b 16 0)
    have ob := ocN_b (x := g 29 k) 16 0
    rw [e] at nx
    rw [e_X12_sureCouples_106, H.2.2.2.1, if_pos (by omega), xg_pos (H.2.1.p (j := 58) (k := 29) (by decide)), xg_pos (by omega), Int.toNat_natCast, on_e (by omega), xb_some, xg_pos (by omega), xg_pos (by omega), show (k : Int) + 1 = ((k + 1 : Nat) : Int) by omega]
    exact nx
/-- a sum in any order is the same -/
theorem sm_od {t : Nat → Int} {f : Nat → Int} (hW : tW2 t) (ho : odR t) : smA (fun j => f (odV t j).toNat) (t 0).toNat = smA f (t 0).toNat := by
  have w0 := hW.1
  have key : ∀ i : Nat, (i : Int) ≤ t 0 → smA (fun j => f (odV t j).toNat) i = smA (fun k => if sbt (plV t i) k = true then f k else 0) (t 0).toNat := by
    intro i
    induction i with
    | zero =>
      intro _
      refine (smA_0 _ (fun k hk => ?_)).symm
      have : sbt (plV t 0) k = false := sb_0 ⟨k, by omega⟩
      rw [this, if_neg (by decide)]
    | succ i ih =>
      intro hi
      obtain ⟨x, x1, x2, x3, -⟩ := od_c hW (ho i (by omega))
      have e : plV t (i + 1) = yari 8 (plV t i) (yari 5 1 (odV t i)) := rfl
      show smA (fun j => f (odV t j).toNat) i + f (odV t i).toNat = _
      rw [ih (by omega), x1, Int.toNat_natCast]
      refine (smA_1 (x := x) _ (by omega) ?_ (fun k hk hne => ?_)).symm
      · rw [e, x1, sb_e (by omega) (by omega), x3, decide_eq_true rfl, if_pos (by decide), if_neg (by decide), Int.zero_add]
      · rw [e, x1, sb_e (by omega) (by omega), decide_eq_false hne, Bool.or_false]
  rw [key (t 0).toNat (by omega)]
  refine smA_c _ (fun k hk => ?_)
  obtain ⟨i, i1, i2⟩ := od_s hW ho (a := k) (by omega)
  rw [(pl_c hW (t 0).toNat (by omega) (fun j hj => ho j (by omega)) k (by omega)).mpr ⟨i, by omega, i2⟩, if_pos rfl]
/-- sure couples of both -/
theorem sur_e {n m b d : Nat} {t : Nat → Int} {h g : yH} (hn : 700 ≤ n) (hm : 600000 ≤ m) (hW : tW2 t) (H : oC b t h) (HR : oR d t g) (I : ∀ j : Nat, (j : Int) < t 0 → g 29 j = bf t j) (ho : odR t) (A : odA t h) :
    ∃ v h2 g2, xl_X3_sureCouples n 14 [180, (b : Int), 0, 0] h = some (v, h2) ∧ f_X12_sureCouples m [35] g = some (v, g2) ∧ (∀ a j, a ≠ 183 → h2 a j = h a j) ∧ ∀ a j, a ≠ 29 → g2 a j = g a j := by
  have w0 := hW.1
  obtain ⟨h2, f1, f2, f3⟩ := sc14_l hW ho (t 0).toNat 0 n h (by omega) (by omega) H A.2 ⟨fun j x q => by omega, fun j x _ q2 q3 => by
    obtain ⟨x', y1, y2, -⟩ := od_c hW (ho j q2)
    exact A.1 x (by omega)⟩
  have F0 : fI t g := fun k hk => by
    rw [I k hk]
    exact ⟨bf_b hW, fun _ _ h => h, fun E hE c hc hb => hE.1 k c hk hc hb⟩
  have s0 := smA_b (f := fun k => g 29 k) (B := 511) (t 0).toNat (fun k hk => (F0 k (by omega)).1)
  obtain ⟨n1, g2, k1, k2, k3, k4, k5⟩ := sr2_l hW 4600 m g (by unfold smG; omega) (by omega) HR F0
  obtain ⟨n2, rfl⟩ : ∃ n', n1 = n' + 1 := ⟨n1 - 1, by omega⟩
  have R2 : oR d t g2 := HR.fr (fun a j w => k3 a j (by omega))
  have l := sr106_l (x1 := 0) hW R2 (t 0).toNat 0 n2 (by omega) (by omega)
  -- the class's sets
  have D : ∀ k : Nat, (k : Int) < t 0 → ∃ j : Nat, (j : Int) < t 0 ∧ odV t j = (k : Int) := fun k hk => od_s hW ho hk
  have cD : clE t (fun k c => sbt (h2 183 k) c = true) := ⟨fun k c hk hc hb => by
    obtain ⟨j, j1, j2⟩ := D k hk
    exact (f3.1 j k (by omega) j2).2.1 c hc hb, fun k i c hk hi hc b1 b2 => by
    obtain ⟨j, j1, j2⟩ := D k hk
    exact (f3.1 j k (by omega) j2).2.2.2.1 i c (by omega) hc b1 b2⟩
  have cS : clE t (fun k c => sbt (g2 29 k) c = true) := ⟨fun k c hk hc hb => (k4 k hk).2.1 c hc hb, fun k i c hk hi hc b1 b2 => k5 k i hk hi b1 c hc b2⟩
  have eq : ∀ k : Nat, (k : Int) < t 0 → h2 183 k = g2 29 k := fun k hk => by
    obtain ⟨j, j1, j2⟩ := D k hk
    obtain ⟨u1, -, -, -, u5⟩ := f3.1 j k (by omega) j2
    exact sb_x u1 (k4 k hk).1 (fun c hc => ⟨fun q => u5 _ cS c hc q, fun q => (k4 k hk).2.2 _ cD c hc q⟩)
  have es := sm_od (f := fun k => ocN (h2 183 k) 16 0) hW ho
  have es2 : smA (fun k => ocN (h2 183 k) 16 0) (t 0).toNat = smA (fun k => ocN (g2 29 k) 16 0) (t 0).toNat := smA_c _ (fun k hk => by
    show ocN (h2 183 k) 16 0 = ocN (g2 29 k) 16 0
    rw [eq k (by omega)])
  refine ⟨smA (fun j => ocN (h2 183 (odV t j).toNat) 16 0) (t 0).toNat, h2, g2, f1, ?_, f2, k3⟩
  rw [e_X12_sureCouples, k1, e_X12_sureCouples_2, if_pos rfl]
  refine Eq.trans l ?_
  rw [← es2, ← es]
end
section
/-! orders of any sets, and ranks -/
theorem nxB_c {bh : Nat → Int} {p : Int} : ∀ m s, m + s ≤ 9 → (nxB bh p m s = -1 ∧ ∀ x : Nat, s ≤ x → x < s + m → ¬ (sbt p x = false ∧ ∀ c, c < 32 → sbt (bh x) c = true → sbt p c = true)) ∨ ∃ x : Nat, nxB bh p m s = (x : Int) ∧ s ≤ x ∧ x < s + m ∧ sbt p x = false ∧ ∀ c, c < 32 → sbt (bh x) c = true → sbt p c = true := by
  intro m
  induction m with
  | zero => intro s _; exact Or.inl ⟨rfl, fun x q1 q2 => by omega⟩
  | succ m ih =>
    intro s e
    rw [nxB_s]
    by_cases c : yari 7 (yari 6 p (s : Int)) 1 = 0 ∧ yari 7 (bh s) (yari 9 p (-1)) = 0
    · rw [if_pos c]
      exact Or.inr ⟨s, rfl, by omega, by omega, (sb_f (by omega)).mp c.1, sb_n.mp c.2⟩
    · rw [if_neg c]
      rcases ih (s + 1) (by omega) with ⟨w1, w2⟩ | ⟨x, w1, w2, w3, w4⟩
      · refine Or.inl ⟨w1, fun x q1 q2 q3 => ?_⟩
        by_cases y : x = s
        · rw [y] at q3
          exact c ⟨(sb_f (by omega)).mpr q3.1, sb_n.mpr q3.2⟩
        · exact w2 x (by omega) (by omega) q3
      · exact Or.inr ⟨x, w1, by omega, by omega, w4⟩
theorem odB_c {bh : Nat → Int} {N i : Nat} (hN : N ≤ 9) (h : odB bh N i ≠ -1) : ∃ x : Nat, odB bh N i = (x : Int) ∧ x < N ∧ sbt (plB bh N i) x = false ∧ ∀ c, c < 32 → sbt (bh x) c = true → sbt (plB bh N i) c = true := by
  rcases nxB_c (bh := bh) (p := plB bh N i) N 0 (by omega) with ⟨w, -⟩ | ⟨x, w1, w2, w3, w4⟩
  · exact absurd w h
  · exact ⟨x, w1, by omega, w4⟩
theorem plB_c {bh : Nat → Int} {N : Nat} (hN : N ≤ 9) : ∀ i : Nat, (∀ j, j < i → odB bh N j ≠ -1) → ∀ c, c < 32 → (sbt (plB bh N i) c = true ↔ ∃ j, j < i ∧ odB bh N j = (c : Int)) := by
  intro i
  induction i with
  | zero =>
    intro _ c hc
    have : sbt (plB bh N 0) c = false := sb_0 ⟨c, hc⟩
    rw [this]
    exact ⟨fun w => (by cases w), fun ⟨j, w, _⟩ => (by omega)⟩
  | succ i ih =>
    intro ho c hc
    obtain ⟨x, x1, x2, x3, x4⟩ := odB_c hN (ho i (by omega))
    have e : plB bh N (i + 1) = yari 8 (plB bh N i) (yari 5 1 (odB bh N i)) := rfl
    rw [e, x1, sb_e (by omega) hc, Bool.or_eq_true, decide_eq_true_iff, ih (fun j hj => ho j (by omega)) c hc]
    constructor
    · rintro (⟨j, w1, w2⟩ | w)
      · exact ⟨j, by omega, w2⟩
      · exact ⟨i, by omega, by rw [x1, w]⟩
    · rintro ⟨j, w1, w2⟩
      by_cases y : j = i
      · right
        rw [y, x1] at w2
        omega
      · exact Or.inl ⟨j, by omega, w2⟩
/-- so many are placed as there were steps -/
theorem plB_n {bh : Nat → Int} {N : Nat} (hN : N ≤ 9) : ∀ i : Nat, (∀ j, j < i → odB bh N j ≠ -1) → (i : Int) = smA (fun k => if sbt (plB bh N i) k = true then 1 else 0) N := by
  intro i
  induction i with
  | zero =>
    intro _
    refine (smA_0 _ (fun k hk => ?_)).symm
    have : sbt (plB bh N 0) k = false := sb_0 ⟨k, by omega⟩
    rw [this, if_neg (by decide)]
  | succ i ih =>
    intro ho
    obtain ⟨x, x1, x2, x3, -⟩ := odB_c hN (ho i (by omega))
    have e : plB bh N (i + 1) = yari 8 (plB bh N i) (yari 5 1 (odB bh N i)) := rfl
    have s1 : smA (fun k => if sbt (plB bh N (i + 1)) k = true then (1 : Int) else 0) N = smA (fun k => if sbt (plB bh N i) k = true then 1 else 0) N + 1 := smA_1 (x := x) _ x2 (by
      rw [e, x1, sb_e (by omega) (by omega), x3, decide_eq_true rfl, if_pos (by decide), if_neg (by decide)]
      decide) (fun k hk hne => by
      rw [e, x1, sb_e (by omega) (by omega), decide_eq_false hne, Bool.or_false])
    have := ih (fun j hj => ho j (by omega))
    omega
theorem smA_k {m : Nat} : smA (fun _ => (1 : Int)) m = (m : Int) := by
  induction m with
  | zero => rfl
  | succ m ih =>
    show smA (fun _ => (1 : Int)) m + 1 = _
    omega
/-- least of a kind -/
theorem lst_k {p : Nat → Bool} {r : Nat → Nat} : ∀ N, (∃ x, x < N ∧ p x = true) → ∃ x, x < N ∧ p x = true ∧ ∀ y, y < N → p y = true → r x ≤ r y := by
  intro N
  induction N with
  | zero => rintro ⟨x, w, _⟩; omega
  | succ N ih =>
    intro h
    by_cases c : ∃ x, x < N ∧ p x = true
    · obtain ⟨x, x1, x2, x3⟩ := ih c
      cases q : p N with
      | false =>
        refine ⟨x, by omega, x2, fun y y1 y2 => ?_⟩
        by_cases z : y = N
        · rw [z, q] at y2; cases y2
        · exact x3 y (by omega) y2
      | true =>
        by_cases d : r x ≤ r N
        · refine ⟨x, by omega, x2, fun y y1 y2 => ?_⟩
          by_cases z : y = N
          · rw [z]; exact d
          · exact x3 y (by omega) y2
        · refine ⟨N, by omega, q, fun y y1 y2 => ?_⟩
          by_cases z : y = N
          · rw [z]; exact Nat.le_refl _
          · have := x3 y (by omega) y2
            omega
    · obtain ⟨x, x1, x2⟩ := h
      have e : x = N := by
        by_cases z : x < N
        · exact absurd ⟨x, z, x2⟩ c
        · omega
      refine ⟨N, by omega, by rw [← e]; exact x2, fun y y1 y2 => ?_⟩
      by_cases z : y = N
      · rw [z]; exact Nat.le_refl _
      · exact absurd ⟨y, by omega, y2⟩ c
/-- the greatest -/
theorem gst_k {p : Nat → Bool} {r : Nat → Nat} : ∀ N, (∃ x, x < N ∧ p x = true) → ∃ x, x < N ∧ p x = true ∧ ∀ y, y < N → p y = true → r y ≤ r x := by
  intro N
  induction N with
  | zero => rintro ⟨x, w, _⟩; omega
  | succ N ih =>
    intro h
    by_cases c : ∃ x, x < N ∧ p x = true
    · obtain ⟨x, x1, x2, x3⟩ := ih c
      cases q : p N with
      | false =>
        refine ⟨x, by omega, x2, fun y y1 y2 => ?_⟩
        by_cases z : y = N
        · rw [z, q] at y2; cases y2
        · exact x3 y (by omega) y2
      | true =>
        by_cases d : r N ≤ r x
        · refine ⟨x, by omega, x2, fun y y1 y2 => ?_⟩
          by_cases z : y = N
          · rw [z]; exact d
          · exact x3 y (by omega) y2
        · refine ⟨N, by omega, q, fun y y1 y2 => ?_⟩
          by_cases z : y = N
          · rw [z]; exact Nat.le_refl _
          · have := x3 y (by omega) y2
            omega
    · obtain ⟨x, x1, x2⟩ := h
      have e : x = N := by
        by_cases z : x < N
        · exact absurd ⟨x, z, x2⟩ c
        · omega
      refine ⟨N, by omega, by rw [← e]; exact x2, fun y y1 y2 => ?_⟩
      by_cases z : y = N
      · rw [z]; exact Nat.le_refl _
      · exact absurd ⟨y, by omega, y2⟩ c
/-- all are placed, of these sets -/
def gdB (bh : Nat → Int) (N : Nat) : Prop := ∀ i, i < N → odB bh N i ≠ -1
/-- a rank that every set keeps lets all be placed -/
theorem gd_r {bh : Nat → Int} {N : Nat} {r : Nat → Nat} (hN : N ≤ 9) (hr : ∀ x c, x < N → c < 32 → sbt (bh x) c = true → c < N ∧ r c < r x) : gdB bh N := by
  have key : ∀ i, i ≤ N → ∀ j, j < i → odB bh N j ≠ -1 := by
    intro i
    induction i with
    | zero => intro _ j hj; omega
    | succ i ih =>
      intro hi j hj
      have ho := ih (by omega)
      by_cases z : j = i
      · rw [z]
        rcases nxB_c (bh := bh) (p := plB bh N i) N 0 (by omega) with ⟨-, w2⟩ | ⟨x, w1, -⟩
        · exfalso
          by_cases c : ∃ x, x < N ∧ (!(sbt (plB bh N i) x)) = true
          · obtain ⟨x, x1, x2, x3⟩ := lst_k (r := r) N c
            have x4 : sbt (plB bh N i) x = false := by
              cases q : sbt (plB bh N i) x with
              | false => rfl
              | true => rw [q] at x2; cases x2
            refine w2 x (Nat.zero_le _) (by omega) ⟨x4, fun c hc hb => ?_⟩
            obtain ⟨c1, c2⟩ := hr x c x1 hc hb
            cases q : sbt (plB bh N i) c with
            | true => rfl
            | false =>
              have := x3 c c1 (by rw [q]; rfl)
              omega
          · have e := plB_n (bh := bh) hN i ho
            rw [smA_c (g := fun _ => (1 : Int)) N (fun k hk => by
              have : sbt (plB bh N i) k = true := by
                cases q : sbt (plB bh N i) k with
                | true => rfl
                | false => exact absurd ⟨k, hk, by rw [q]; rfl⟩ c
              rw [if_pos this]), smA_k] at e
            omega
        · intro w
          have e : odB bh N i = (x : Int) := w1
          omega
      · exact ho j (by omega)
  exact fun i hi => key N (Nat.le_refl _) i hi
/-- and the places are such a rank -/
theorem gd_p {bh : Nat → Int} {N : Nat} (hN : N ≤ 9) (h : gdB bh N) : ∃ r : Nat → Nat, ∀ x c, x < N → c < 32 → sbt (bh x) c = true → r c < r x := by
  have all : ∀ x, x < N → ∃ i, i < N ∧ odB bh N i = (x : Int) := fun x hx => by
    have e := plB_n (bh := bh) hN N (fun j hj => h j hj)
    by_cases c : sbt (plB bh N N) x = true
    · exact (plB_c hN N (fun j hj => h j hj) x (by omega)).mp c
    · exfalso
      have l : smA (fun k => if sbt (plB bh N N) k = true then (1 : Int) else 0) N + 1 ≤ smA (fun _ => (1 : Int)) N := by
        have s1 : smA (fun k => if k = x then (1 : Int) else if sbt (plB bh N N) k = true then 1 else 0) N = smA (fun k => if sbt (plB bh N N) k = true then (1 : Int) else 0) N + 1 := smA_1 (x := x) _ hx (by rw [if_pos rfl, if_neg c]; decide) (fun k _ hne => if_neg hne)
        rw [← s1]
        refine smA_le N (fun k _ => ?_)
        by_cases q : k = x
        · rw [if_pos q]; exact Int.le_refl _
        · rw [if_neg q]
          by_cases q2 : sbt (plB bh N N) k = true
          · rw [if_pos q2]; exact Int.le_refl _
          · rw [if_neg q2]; decide
      rw [smA_k] at l
      omega
  refine ⟨fun x => if hx : ∃ i, i < N ∧ odB bh N i = (x : Int) then Classical.choose hx else 0, fun x c hx hc hb => ?_⟩
  have hX := all x hx
  obtain ⟨i1, i2⟩ := Classical.choose_spec hX
  obtain ⟨y, y1, y2, y3, y4⟩ := odB_c hN (h (Classical.choose hX) i1)
  have exy : y = x := by omega
  rw [exy] at y4
  obtain ⟨j, j1, j2⟩ := (plB_c hN (Classical.choose hX) (fun j hj => h j (by omega)) c hc).mp (y4 c hc hb)
  have hC : ∃ i, i < N ∧ odB bh N i = (c : Int) := ⟨j, by omega, j2⟩
  obtain ⟨k1, k2⟩ := Classical.choose_spec hC
  show (if hx : ∃ i, i < N ∧ odB bh N i = (c : Int) then Classical.choose hx else 0) < (if hx : ∃ i, i < N ∧ odB bh N i = (x : Int) then Classical.choose hx else 0)
  rw [dif_pos hX, dif_pos hC]
  -- the place of c is j, as every saying has one place
  have inj : ∀ a b, a < b → b < N → odB bh N a ≠ odB bh N b := fun a b h1 h2 w => by
    obtain ⟨z, z1, z2, z3, -⟩ := odB_c hN (h b h2)
    have := (plB_c hN b (fun j hj => h j (by omega)) z (by omega)).mpr ⟨a, h1, by rw [w, z1]⟩
    rw [z3] at this
    cases this
  by_cases q : Classical.choose hC = j
  · omega
  · by_cases q2 : Classical.choose hC < j
    · omega
    · exact absurd (j2.trans k2.symm) (inj j (Classical.choose hC) (by omega) k1)
/-- the bits of a set without some aheads -/
theorem bgT_c {t : Nat → Int} {but : Int} (hW : tW2 t) : ∀ K, K ≤ 16 → ∀ j c : Nat, c < 32 → (sbt (bgT t but K j) c = true ↔ ∃ k, k < K ∧ t (21 + 2 * k) = (j : Int) ∧ sbt but k = false ∧ t (20 + 2 * k) = (c : Int)) := by
  intro K
  induction K with
  | zero =>
    intro _ j c hc
    have : sbt (bgT t but 0 j) c = false := sb_0 ⟨c, hc⟩
    rw [this]
    exact ⟨fun w => (by cases w), fun ⟨k, w, _⟩ => (by omega)⟩
  | succ K ih =>
    intro hK j c hc
    obtain ⟨b1, b2, -⟩ := hW.2.2.2 K (by omega)
    have e : bgT t but (K + 1) j = if (j : Int) = t (21 + 2 * K) ∧ ¬ yari 7 (yari 6 but (K : Int)) 1 = 1 then yari 8 (bgT t but K j) (yari 5 1 (t (20 + 2 * K))) else bgT t but K j := rfl
    have tb : ¬ yari 7 (yari 6 but (K : Int)) 1 = 1 ↔ sbt but K = false := by
      rw [sb_t (by omega)]
      cases sbt but K with
      | true => exact ⟨fun w => absurd rfl w, fun w => (by cases w)⟩
      | false => exact ⟨fun _ => rfl, fun _ w => (by cases w)⟩
    rw [e]
    by_cases z : (j : Int) = t (21 + 2 * K) ∧ ¬ yari 7 (yari 6 but (K : Int)) 1 = 1
    · obtain ⟨f, ef⟩ : ∃ f : Nat, t (20 + 2 * K) = (f : Int) := ⟨(t (20 + 2 * K)).toNat, by omega⟩
      rw [if_pos z, ef, sb_e (by omega) hc, Bool.or_eq_true, decide_eq_true_iff, ih (by omega) j c hc]
      constructor
      · rintro (⟨k, k1, k2⟩ | w)
        · exact ⟨k, by omega, k2⟩
        · exact ⟨K, by omega, z.1.symm, tb.mp z.2, by rw [ef, w]⟩
      · rintro ⟨k, k1, k2, k3, k4⟩
        by_cases y : k = K
        · right
          rw [y, ef] at k4
          omega
        · exact Or.inl ⟨k, by omega, k2, k3, k4⟩
    · rw [if_neg z, ih (by omega) j c hc]
      constructor
      · rintro ⟨k, k1, k2⟩
        exact ⟨k, by omega, k2⟩
      · rintro ⟨k, k1, k2, k3, k4⟩
        by_cases y : k = K
        · rw [y] at k2 k3
          exact absurd ⟨k2.symm, tb.mpr k3⟩ z
        · exact ⟨k, by omega, k2, k3, k4⟩
end
section
/-! the fewest aheads to leave out: least costs of sets -/
theorem smA_a {f g : Nat → Int} : ∀ m, smA (fun k => f k + g k) m = smA f m + smA g m := by
  intro m
  induction m with
  | zero => rfl
  | succ m ih =>
    show smA (fun k => f k + g k) m + (f m + g m) = (smA f m + f m) + (smA g m + g m)
    omega
theorem smA_f {f : Nat → Int} : ∀ m, smA f (m + 1) = f 0 + smA (fun k => f (k + 1)) m := by
  intro m
  induction m with
  | zero =>
    show (0 : Int) + f 0 = f 0 + 0
    omega
  | succ m ih =>
    show smA f (m + 1) + f (m + 1) = f 0 + (smA (fun k => f (k + 1)) m + f (m + 1))
    omega
theorem smA_x {f : Nat → Int} {m : Nat} : ∀ d, (∀ k, m ≤ k → k < m + d → f k = 0) → smA f (m + d) = smA f m := by
  intro d
  induction d with
  | zero => intro _; rfl
  | succ d ih =>
    intro h
    show smA f (m + d) + f (m + d) = smA f m
    rw [ih (fun k h1 h2 => h k h1 (by omega)), h (m + d) (by omega) (by omega), Int.add_zero]
def mnA (f : Nat → Int) : Nat → Int
  | 0 => 2147483647
  | m + 1 => min (mnA f m) (f m)
theorem mn_c {f : Nat → Int} {w : Int} : ∀ m, w ≤ mnA f m ↔ (w ≤ 2147483647 ∧ ∀ k, k < m → w ≤ f k) := by
  intro m
  induction m with
  | zero => exact ⟨fun h => ⟨h, fun k hk => by omega⟩, fun h => h.1⟩
  | succ m ih =>
    show w ≤ min (mnA f m) (f m) ↔ _
    constructor
    · intro h
      obtain ⟨i1, i2⟩ := ih.mp (by omega)
      refine ⟨i1, fun k hk => ?_⟩
      by_cases z : k = m
      · rw [z]; omega
      · exact i2 k (by omega)
    · rintro ⟨h1, h2⟩
      have := ih.mpr ⟨h1, fun k hk => h2 k (by omega)⟩
      have := h2 m (by omega)
      omega
theorem mn_e {f : Nat → Int} : ∀ m, mnA f m = 2147483647 ∨ ∃ k, k < m ∧ mnA f m = f k := by
  intro m
  induction m with
  | zero => exact Or.inl rfl
  | succ m ih =>
    have e : mnA f (m + 1) = min (mnA f m) (f m) := rfl
    by_cases z : mnA f m ≤ f m
    · rcases ih with w | ⟨k, w1, w2⟩
      · left; omega
      · exact Or.inr ⟨k, by omega, by omega⟩
    · exact Or.inr ⟨m, by omega, by omega⟩
def wK (k : Nat) : Int := 65536 + ((2 ^ k : Nat) : Int)
theorem wK_0 {k : Nat} : 0 ≤ wK k := by
  unfold wK
  have : (0 : Int) ≤ ((2 ^ k : Nat) : Int) := by first | exact Int.natCast_nonneg _ | exact Int.ofNat_nonneg _
  omega
theorem wKF : ∀ k : Fin 16, wK k.val ≤ 98304 := by decide +kernel
def WW (t : Nat → Int) (P : Nat → Bool) : Int := smA (fun k => if P k = true then wK k else 0) (t 1).toNat
theorem WW_b {t : Nat → Int} {P : Nat → Bool} (hW : tW2 t) : 0 ≤ WW t P ∧ WW t P ≤ 1572864 := by
  have w1 := hW.2.1
  have b := smA_b (f := fun k => if P k = true then wK k else 0) (B := 98304) (t 1).toNat (fun k hk => by
    have u := wKF ⟨k, by omega⟩
    simp only at u
    by_cases c : P k = true
    · rw [if_pos c]
      exact ⟨wK_0, u⟩
    · rw [if_neg c]; omega)
  unfold WW
  omega
theorem WW_le {t : Nat → Int} {P Q : Nat → Bool} (h : ∀ k : Nat, (k : Int) < t 1 → P k = true → Q k = true) : WW t P ≤ WW t Q := smA_le _ (fun k hk => by
  by_cases c : P k = true
  · rw [if_pos c, if_pos (h k (by omega) c)]; exact Int.le_refl _
  · rw [if_neg c]
    by_cases c2 : Q k = true
    · rw [if_pos c2]
      exact wK_0
    · rw [if_neg c2]; exact Int.le_refl _)
/-- two kinds that exclude each other -/
theorem WW_a {t : Nat → Int} {P Q : Nat → Bool} (h : ∀ k : Nat, (k : Int) < t 1 → P k = true → Q k = true → False) : WW t (fun k => P k || Q k) = WW t P + WW t Q := by
  unfold WW
  rw [← smA_a]
  refine smA_c _ (fun k hk => ?_)
  have hk' := h k (by omega)
  show (if (P k || Q k) = true then wK k else 0) = (if P k = true then wK k else 0) + (if Q k = true then wK k else 0)
  cases c1 : P k with
  | true =>
    cases c2 : Q k with
    | true => exact (hk' c1 c2).elim
    | false => rw [Bool.or_false, if_pos rfl, if_neg (by decide), Int.add_zero]
  | false =>
    rw [Bool.false_or, if_neg (show ¬ (false = true) by decide), Int.zero_add]
/-- what it costs that saying s comes behind all of a set -/
def cbV (t : Nat → Int) (s u : Nat) : Int := WW t (fun k => decide (t (20 + 2 * k) = (s : Int)) && sbt (u : Int) (t (21 + 2 * k)).toNat)
def dpA (t : Nat → Int) (N : Nat) : Nat → Nat → Int
  | 0, _ => 0
  | f + 1, u => if u = 0 then 0 else mnA (fun k => if sbt (u : Int) k = true then dpA t N f (u - 2 ^ k) + cbV t k (u - 2 ^ k) else 2147483647) N
theorem dpA_s {t : Nat → Int} {N f u : Nat} : dpA t N (f + 1) u = if u = 0 then 0 else mnA (fun k => if sbt (u : Int) k = true then dpA t N f (u - 2 ^ k) + cbV t k (u - 2 ^ k) else 2147483647) N := rfl
theorem mnA_g {f g : Nat → Int} : ∀ m, (∀ k, k < m → f k = g k) → mnA f m = mnA g m := by
  intro m
  induction m with
  | zero => intro _; rfl
  | succ m ih =>
    intro h
    show min (mnA f m) (f m) = min (mnA g m) (g m)
    rw [ih (fun k hk => h k (by omega)), h m (by omega)]
theorem dpA_t {t : Nat → Int} {N : Nat} : ∀ f u, u ≤ f → dpA t N f u = dpA t N (f + 1) u := by
  intro f
  induction f with
  | zero =>
    intro u hu
    rw [show u = 0 by omega]
    rfl
  | succ f ih =>
    intro u hu
    rw [dpA_s, dpA_s]
    by_cases z : u = 0
    · rw [if_pos z, if_pos z]
    · rw [if_neg z, if_neg z]
      refine mnA_g N (fun k _ => ?_)
      have p : 1 ≤ 2 ^ k := Nat.one_le_two_pow
      have i := ih (u - 2 ^ k) (by omega)
      by_cases c : sbt (u : Int) k = true
      · rw [if_pos c, if_pos c, i]
      · rw [if_neg c, if_neg c]
/-- the least cost of a set -/
def dpV (t : Nat → Int) (N u : Nat) : Int := dpA t N 600 u
def dpT (t : Nat → Int) (N u k : Nat) : Int := if sbt (u : Int) k = true then dpV t N (u - 2 ^ k) + cbV t k (u - 2 ^ k) else 2147483647
theorem dpV_0 {t : Nat → Int} {N : Nat} : dpV t N 0 = 0 := by
  unfold dpV
  rw [show (600 : Nat) = 599 + 1 from rfl, dpA_s, if_pos rfl]
theorem dpV_e {t : Nat → Int} {N u : Nat} (h0 : u ≠ 0) (hu : u < 512) : dpV t N u = mnA (dpT t N u) N := by
  exact (dpA_t (t := t) (N := N) 600 u (by omega)).trans ((dpA_s (f := 600)).trans (if_neg h0))
/-- the bits of a set without one -/
theorem sub_b {u k x : Nat} (hu : u < 512) (hk : k < 9) (hb : sbt (u : Int) k = true) (hx : x < 32) : sbt ((u - 2 ^ k : Nat) : Int) x = (sbt (u : Int) x && decide (x ≠ k)) := by
  obtain ⟨-, q2, -, q4, -⟩ := s9t hu hk hb
  obtain ⟨-, r2, -, -⟩ := s9f (show u - 2 ^ k < 512 from Nat.lt_of_le_of_lt (Nat.sub_le _ _) hu) hk q4
  rw [show u - 2 ^ k + 2 ^ k = u by omega] at r2
  have e := sb_e (x := ((u - 2 ^ k : Nat) : Int)) (k := k) (c := x) (by omega) hx
  rw [r2] at e
  rw [e]
  by_cases z : x = k
  · rw [z, q4, decide_eq_true rfl, decide_eq_false (show ¬ (k ≠ k) from fun w => w rfl)]
    rfl
  · rw [decide_eq_false z, decide_eq_true z, Bool.or_false, Bool.and_true]
theorem b9F : ∀ u : Fin 512, u.val ≠ 0 → ∃ k : Fin 9, sbt (u.val : Int) k.val = true := by decide +kernel
/-- sets of the first N sayings -/
def inN (N u : Nat) : Prop := u < 512 ∧ ∀ x, x < 32 → sbt (u : Int) x = true → x < N
theorem inN.s {N u k : Nat} (h : inN N u) (hk : k < 9) (hb : sbt (u : Int) k = true) : inN N (u - 2 ^ k) := ⟨Nat.lt_of_le_of_lt (Nat.sub_le _ _) h.1, fun x hx hb2 => by
  rw [sub_b h.1 hk hb hx, Bool.and_eq_true] at hb2
  exact h.2 x hx hb2.1⟩
/-- an order that costs the least -/
theorem dp_1 {t : Nat → Int} {N : Nat} (hW : tW2 t) (hN : N ≤ 9) : ∀ m u, u ≤ m → inN N u → ∃ (P : Nat → Bool) (r : Nat → Nat) (B : Nat), dpV t N u = WW t P ∧ (∀ k : Nat, (k : Int) < t 1 → P k = true → sbt (u : Int) (t (20 + 2 * k)).toNat = true ∧ sbt (u : Int) (t (21 + 2 * k)).toNat = true) ∧ (∀ x, r x < B) ∧ ∀ k : Nat, (k : Int) < t 1 → sbt (u : Int) (t (20 + 2 * k)).toNat = true → sbt (u : Int) (t (21 + 2 * k)).toNat = true → P k = false → r (t (20 + 2 * k)).toNat < r (t (21 + 2 * k)).toNat := by
  have w1 := hW.2.1
  have zero : ∀ u, u = 0 → ∃ (P : Nat → Bool) (r : Nat → Nat) (B : Nat), dpV t N u = WW t P ∧ (∀ k : Nat, (k : Int) < t 1 → P k = true → sbt (u : Int) (t (20 + 2 * k)).toNat = true ∧ sbt (u : Int) (t (21 + 2 * k)).toNat = true) ∧ (∀ x, r x < B) ∧ ∀ k : Nat, (k : Int) < t 1 → sbt (u : Int) (t (20 + 2 * k)).toNat = true → sbt (u : Int) (t (21 + 2 * k)).toNat = true → P k = false → r (t (20 + 2 * k)).toNat < r (t (21 + 2 * k)).toNat := fun u hu => by
    subst hu
    refine ⟨fun _ => false, fun _ => 0, 1, ?_, fun k _ h => (by cases h), fun _ => Nat.one_pos, fun k hk h1 => ?_⟩
    · rw [dpV_0]
      exact (smA_0 _ (fun k _ => if_neg (show ¬ ((false : Bool) = true) by decide))).symm
    · have b := (hW.2.2.2 k (by omega)).1
      have : sbt ((0 : Nat) : Int) (t (20 + 2 * k)).toNat = false := sb_0 ⟨(t (20 + 2 * k)).toNat, by omega⟩
      rw [this] at h1
      cases h1
  intro m
  induction m with
  | zero => intro u hu _; exact zero u (by omega)
  | succ m ih =>
    intro u hu hI
    by_cases z : u = 0
    · exact zero u z
    · have small : ∀ k, k < 9 → sbt (u : Int) k = true → dpV t N (u - 2 ^ k) + cbV t k (u - 2 ^ k) ≤ 3145728 := fun k hk hb => by
        have p : 1 ≤ 2 ^ k := Nat.one_le_two_pow
        obtain ⟨q1, q2, -⟩ := s9t hI.1 hk hb
        obtain ⟨P, r, B, e, -⟩ := ih (u - 2 ^ k) (by omega) (hI.s hk hb)
        have b1 := WW_b (P := P) hW
        have b2 : cbV t k (u - 2 ^ k) ≤ 1572864 := (WW_b hW).2
        omega
      have e := dpV_e (t := t) (N := N) z hI.1
      obtain ⟨k0, k1⟩ := b9F ⟨u, hI.1⟩ z
      simp only at k1
      have kN := hI.2 k0.val (by omega) k1
      have le : mnA (dpT t N u) N ≤ dpT t N u k0.val := ((mn_c N).mp (Int.le_refl _)).2 k0.val kN
      have e0 : dpT t N u k0.val = dpV t N (u - 2 ^ k0.val) + cbV t k0.val (u - 2 ^ k0.val) := if_pos k1
      have s0 := small k0.val k0.isLt k1
      rcases mn_e (f := dpT t N u) N with w | ⟨k, hk, w⟩
      · omega
      · have kb : sbt (u : Int) k = true := by
          cases q : sbt (u : Int) k with
          | true => rfl
          | false =>
            have : dpT t N u k = 2147483647 := if_neg (by rw [q]; decide)
            omega
        have ek : dpT t N u k = dpV t N (u - 2 ^ k) + cbV t k (u - 2 ^ k) := if_pos kb
        have p : 1 ≤ 2 ^ k := Nat.one_le_two_pow
        obtain ⟨P, r, B, i1, i2, i3, i4⟩ := ih (u - 2 ^ k) (by omega) (hI.s (by omega) kb)
        have sb : ∀ x, x < 32 → sbt ((u - 2 ^ k : Nat) : Int) x = (sbt (u : Int) x && decide (x ≠ k)) := fun x hx => sub_b hI.1 (by omega) kb hx
        have fb : ∀ j : Nat, (j : Int) < t 1 → (t (20 + 2 * j)).toNat < 32 ∧ (t (21 + 2 * j)).toNat < 32 ∧ (t (20 + 2 * j)).toNat ≠ (t (21 + 2 * j)).toNat ∧ 0 ≤ t (20 + 2 * j) := fun j hj => by
          obtain ⟨b1, b2, b3⟩ := hW.2.2.2 j (by omega)
          have := b3 hj
          omega
        refine ⟨fun j => P j || (decide (t (20 + 2 * j) = (k : Int)) && sbt ((u - 2 ^ k : Nat) : Int) (t (21 + 2 * j)).toNat), fun x => if x = k then B else r x, B + 1, ?_, fun j hj hP => ?_, fun x => ?_, fun j hj h1 h2 hP => ?_⟩
        · rw [e, w, ek, i1]
          unfold cbV
          refine (WW_a (fun j hj h1 h2 => ?_)).symm
          rw [Bool.and_eq_true, decide_eq_true_iff] at h2
          have h3 := (i2 j hj h1).1
          rw [h2.1, Int.toNat_natCast, sb k (by omega), decide_eq_false (fun w => w rfl), Bool.and_false] at h3
          cases h3
        · obtain ⟨f1, f2, f3, f4⟩ := fb j hj
          rw [Bool.or_eq_true, Bool.and_eq_true, decide_eq_true_iff] at hP
          rcases hP with h | h
          · obtain ⟨g1, g2⟩ := i2 j hj h
            rw [sb _ f1, Bool.and_eq_true] at g1
            rw [sb _ f2, Bool.and_eq_true] at g2
            exact ⟨g1.1, g2.1⟩
          · rw [sb _ f2, Bool.and_eq_true] at h
            rw [h.1, Int.toNat_natCast]
            exact ⟨kb, h.2.1⟩
        · show (if x = k then B else r x) < B + 1
          by_cases y : x = k
          · rw [if_pos y]; omega
          · rw [if_neg y]
            have := i3 x
            omega
        · obtain ⟨f1, f2, f3, f4⟩ := fb j hj
          rw [Bool.or_eq_false_iff] at hP
          show (if (t (20 + 2 * j)).toNat = k then B else r (t (20 + 2 * j)).toNat) < (if (t (21 + 2 * j)).toNat = k then B else r (t (21 + 2 * j)).toNat)
          by_cases y1 : (t (20 + 2 * j)).toNat = k
          · exfalso
            have h3 := hP.2
            rw [decide_eq_true (show t (20 + 2 * j) = (k : Int) by omega), Bool.true_and, sb _ f2, h2, Bool.true_and, decide_eq_true (show (t (21 + 2 * j)).toNat ≠ k by omega)] at h3
            cases h3
          · rw [if_neg y1]
            by_cases y2 : (t (21 + 2 * j)).toNat = k
            · rw [if_pos y2]; exact i3 _
            · rw [if_neg y2]
              exact i4 j hj (by rw [sb _ f1, h1, Bool.true_and, decide_eq_true y1]) (by rw [sb _ f2, h2, Bool.true_and, decide_eq_true y2]) hP.1
theorem dpV_b {t : Nat → Int} {N u : Nat} (hW : tW2 t) (hN : N ≤ 9) (hu : inN N u) : 0 ≤ dpV t N u ∧ dpV t N u ≤ 1572864 := by
  obtain ⟨P, r, B, e, -⟩ := dp_1 hW hN u u (Nat.le_refl _) hu
  rw [e]
  exact WW_b hW
/-- no order costs less -/
theorem dp_2 {t : Nat → Int} {N : Nat} (hW : tW2 t) (hN : N ≤ 9) {Q : Nat → Bool} {r : Nat → Nat} (hr : ∀ k : Nat, (k : Int) < t 1 → Q k = false → r (t (20 + 2 * k)).toNat < r (t (21 + 2 * k)).toNat) : ∀ m u, u ≤ m → inN N u → dpV t N u ≤ WW t (fun k => Q k && (sbt (u : Int) (t (20 + 2 * k)).toNat && sbt (u : Int) (t (21 + 2 * k)).toNat)) := by
  have w1 := hW.2.1
  intro m
  induction m with
  | zero =>
    intro u hu _
    rw [show u = 0 by omega, dpV_0]
    exact (WW_b hW).1
  | succ m ih =>
    intro u hu hI
    by_cases z : u = 0
    · rw [z, dpV_0]
      exact (WW_b hW).1
    · obtain ⟨k0, k1⟩ := b9F ⟨u, hI.1⟩ z
      simp only at k1
      obtain ⟨s, s1, s2, s3⟩ := gst_k (p := fun x => sbt (u : Int) x) (r := r) N ⟨k0.val, hI.2 k0.val (by omega) k1, k1⟩
      have p : 1 ≤ 2 ^ s := Nat.one_le_two_pow
      obtain ⟨q1, q2, -⟩ := s9t hI.1 (by omega) s2
      have i := ih (u - 2 ^ s) (by omega) (hI.s (by omega) s2)
      have le : mnA (dpT t N u) N ≤ dpT t N u s := ((mn_c N).mp (Int.le_refl _)).2 s s1
      have e0 : dpT t N u s = dpV t N (u - 2 ^ s) + cbV t s (u - 2 ^ s) := if_pos s2
      rw [dpV_e z hI.1]
      refine Int.le_trans le ?_
      rw [e0]
      refine Int.le_trans (Int.add_le_add_right i _) ?_
      have sb : ∀ x, x < 32 → sbt ((u - 2 ^ s : Nat) : Int) x = (sbt (u : Int) x && decide (x ≠ s)) := fun x hx => sub_b hI.1 (by omega) s2 hx
      have fb : ∀ j : Nat, (j : Int) < t 1 → (t (20 + 2 * j)).toNat < 32 ∧ (t (21 + 2 * j)).toNat < 32 := fun j hj => by
        obtain ⟨b1, b2, -⟩ := hW.2.2.2 j (by omega)
        omega
      unfold cbV
      rw [← WW_a (fun j hj h1 h2 => by
        rw [Bool.and_eq_true, Bool.and_eq_true] at h1
        rw [Bool.and_eq_true, decide_eq_true_iff] at h2
        have h3 := h1.2.1
        rw [h2.1, Int.toNat_natCast, sb s (by omega), decide_eq_false (fun w => w rfl), Bool.and_false] at h3
        cases h3)]
      refine WW_le (fun j hj h => ?_)
      obtain ⟨f1, f2⟩ := fb j hj
      rw [Bool.or_eq_true] at h
      rcases h with h | h
      · rw [Bool.and_eq_true, Bool.and_eq_true, sb _ f1, sb _ f2, Bool.and_eq_true, Bool.and_eq_true] at h
        rw [h.1, h.2.1.1, h.2.2.1]
        rfl
      · rw [Bool.and_eq_true, decide_eq_true_iff, sb _ f2, Bool.and_eq_true] at h
        have hs : (t (20 + 2 * j)).toNat = s := by rw [h.1, Int.toNat_natCast]
        rw [hs, s2, h.2.1]
        cases q : Q j with
        | true => rfl
        | false =>
          have g1 := hr j hj q
          have g2 := s3 (t (21 + 2 * j)).toNat (hI.2 _ f2 h.2.1) h.2.1
          rw [hs] at g1
          omega
/-! sets of aheads as numbers -/
def nbN (P : Nat → Bool) : Nat → Nat
  | 0 => 0
  | m + 1 => nbN P m + (if P m = true then 2 ^ m else 0)
theorem nbN_l {P : Nat → Bool} : ∀ m, nbN P m < 2 ^ m := by
  intro m
  induction m with
  | zero => exact Nat.one_pos
  | succ m ih =>
    show nbN P m + (if P m = true then 2 ^ m else 0) < 2 ^ (m + 1)
    rw [Nat.pow_succ]
    by_cases c : P m = true
    · rw [if_pos c]; omega
    · rw [if_neg c]; omega
theorem nbN_t {P : Nat → Bool} : ∀ m k, Nat.testBit (nbN P m) k = (decide (k < m) && P k) := by
  intro m
  induction m with
  | zero =>
    intro k
    show Nat.testBit 0 k = _
    rw [Nat.zero_testBit, decide_eq_false (by omega), Bool.false_and]
  | succ m ih =>
    intro k
    have l := nbN_l (P := P) m
    show Nat.testBit (nbN P m + (if P m = true then 2 ^ m else 0)) k = _
    by_cases c : P m = true
    · rw [if_pos c, Nat.add_comm]
      by_cases z : k = m
      · rw [z, Nat.testBit_two_pow_add_eq, ih, decide_eq_false (Nat.lt_irrefl _), Bool.false_and, decide_eq_true (by omega), c]
        rfl
      · by_cases z2 : k < m
        · rw [Nat.testBit_two_pow_add_gt z2, ih, decide_eq_true z2, decide_eq_true (show k < m + 1 by omega)]
        · have b : 2 ^ m + nbN P m < 2 ^ k := by
            have : 2 ^ (m + 1) ≤ 2 ^ k := Nat.pow_le_pow_right (by decide) (by omega)
            rw [Nat.pow_succ] at this
            omega
          rw [Nat.testBit_lt_two_pow b, decide_eq_false (by omega), Bool.false_and]
    · rw [if_neg c, Nat.add_zero, ih]
      by_cases z : k = m
      · rw [z, decide_eq_false (Nat.lt_irrefl _), decide_eq_true (by omega)]
        cases q : P m with
        | true => exact absurd q c
        | false => rfl
      · by_cases z2 : k < m
        · rw [decide_eq_true z2, decide_eq_true (show k < m + 1 by omega)]
        · rw [decide_eq_false z2, decide_eq_false (show ¬ (k < m + 1) by omega)]
theorem sb_T {x c : Nat} (hc : c < 32) : sbt (x : Int) c = Nat.testBit x c := by
  unfold sbt
  rw [i32_n, BitVec.getLsbD_ofNat, decide_eq_true hc, Bool.true_and]
theorem W_n {P : Nat → Bool} : ∀ m, smA (fun k => if P k = true then wK k else 0) m = 65536 * smA (fun k => if P k = true then 1 else 0) m + (nbN P m : Int) := by
  intro m
  induction m with
  | zero => rfl
  | succ m ih =>
    have e : ((nbN P (m + 1) : Nat) : Int) = (nbN P m : Int) + (if P m = true then ((2 ^ m : Nat) : Int) else 0) := by
      show ((nbN P m + (if P m = true then 2 ^ m else 0) : Nat) : Int) = _
      by_cases c : P m = true
      · rw [if_pos c, if_pos c]; omega
      · rw [if_neg c, if_neg c]; omega
    show smA (fun k => if P k = true then wK k else 0) m + (if P m = true then wK m else 0) = 65536 * (smA (fun k => if P k = true then 1 else 0) m + (if P m = true then 1 else 0)) + ((nbN P (m + 1) : Nat) : Int)
    rw [e, ih]
    unfold wK
    by_cases c : P m = true
    · rw [if_pos c, if_pos c, if_pos c]; omega
    · rw [if_neg c, if_neg c, if_neg c]; omega
theorem oc_s {x : Int} : ∀ m s, ocN x m s = smA (fun k => if sbt x (s + k) = true then 1 else 0) m := by
  intro m
  induction m with
  | zero => intro s; rfl
  | succ m ih =>
    intro s
    rw [smA_f]
    show (if sbt x s = true then 1 else 0) + ocN x m (s + 1) = _
    rw [ih (s + 1), Nat.add_zero]
    refine congrArg _ (smA_c m (fun k _ => ?_))
    rw [show s + 1 + k = s + (k + 1) by omega]
/-- the cost of a number's aheads -/
theorem WW_n {t : Nat → Int} {b : Nat} (hW : tW2 t) (hb : b < 2 ^ (t 1).toNat) : WW t (fun k => sbt (b : Int) k) = 65536 * ocN (b : Int) 16 0 + (b : Int) := by
  have w1 := hW.2.1
  have e : nbN (fun k => sbt (b : Int) k) (t 1).toNat = b := by
    apply Nat.eq_of_testBit_eq
    intro i
    rw [nbN_t]
    by_cases z : i < (t 1).toNat
    · rw [decide_eq_true z, Bool.true_and, sb_T (by omega)]
    · rw [decide_eq_false z, Bool.false_and]
      have : 2 ^ (t 1).toNat ≤ 2 ^ i := Nat.pow_le_pow_right (by decide) (by omega)
      exact (Nat.testBit_lt_two_pow (by omega)).symm
  have o : ocN (b : Int) 16 0 = smA (fun k => if sbt (b : Int) k = true then 1 else 0) (t 1).toNat := by
    rw [oc_s, smA_c (g := fun k => if sbt (b : Int) k = true then 1 else 0) 16 (fun k _ => by rw [Nat.zero_add]), show (16 : Nat) = (t 1).toNat + (16 - (t 1).toNat) by omega]
    refine smA_x _ (fun k h1 h2 => if_neg (fun w => ?_))
    rw [sb_T (by omega)] at w
    have : 2 ^ (t 1).toNat ≤ 2 ^ k := Nat.pow_le_pow_right (by decide) h1
    rw [Nat.testBit_lt_two_pow (by omega)] at w
    cases w
  unfold WW
  rw [W_n, e, o]
/-- a set of aheads has its number -/
theorem nb_P {t : Nat → Int} {P : Nat → Bool} (hW : tW2 t) : ∃ b : Nat, b < 2 ^ (t 1).toNat ∧ (∀ k : Nat, (k : Int) < t 1 → sbt (b : Int) k = P k) ∧ WW t P = 65536 * ocN (b : Int) 16 0 + (b : Int) := by
  have w1 := hW.2.1
  have l := nbN_l (P := P) (t 1).toNat
  have h : ∀ k : Nat, (k : Int) < t 1 → sbt ((nbN P (t 1).toNat : Nat) : Int) k = P k := fun k hk => by
    rw [sb_T (by omega), nbN_t, decide_eq_true (show k < (t 1).toNat by omega), Bool.true_and]
  refine ⟨nbN P (t 1).toNat, l, h, ?_⟩
  rw [← WW_n hW l]
  refine smA_c _ (fun k hk => ?_)
  show (if P k = true then wK k else 0) = (if sbt ((nbN P (t 1).toNat : Nat) : Int) k = true then wK k else 0)
  rw [h k (by omega)]
end
section
/-! the fewest aheads to leave out: the class -/
theorem wK16 : ∀ k : Fin 16, 65536 + yari 5 1 (k.val : Int) = wK k.val ∧ 0 ≤ wK k.val ∧ wK k.val ≤ 98304 ∧ 0 ≤ yari 5 1 (k.val : Int) := by decide +kernel
def ccV (t : Nat → Int) (K j : Nat) : Int := smA (fun i => if 9 * t (20 + 2 * i) + t (21 + 2 * i) = (j : Int) then wK i else 0) K
theorem ccV_b {t : Nat → Int} {K j : Nat} (hK : K ≤ 16) : 0 ≤ ccV t K j ∧ ccV t K j ≤ 1572864 := by
  have b := smA_b (f := fun i => if 9 * t (20 + 2 * i) + t (21 + 2 * i) = (j : Int) then wK i else 0) (B := 98304) K (fun k hk => by
    obtain ⟨-, u1, u2, -⟩ := wK16 ⟨k, by omega⟩
    simp only at u1 u2
    by_cases c : 9 * t (20 + 2 * k) + t (21 + 2 * k) = (j : Int)
    · rw [if_pos c]; exact ⟨u1, u2⟩
    · rw [if_neg c]; omega)
  unfold ccV
  omega
/-- the costs of couples, summed by the later one -/
theorem cb_sw {t : Nat → Int} {s u : Nat} (hW : tW2 t) (hs : s < 9) : ∀ K, K ≤ 16 → smA (fun x => if sbt (u : Int) x = true then ccV t K (9 * s + x) else 0) 9 = smA (fun k => if (decide (t (20 + 2 * k) = (s : Int)) && sbt (u : Int) (t (21 + 2 * k)).toNat) = true then wK k else 0) K := by
  intro K
  induction K with
  | zero =>
    intro _
    refine smA_0 9 (fun x _ => ?_)
    have e : ccV t 0 (9 * s + x) = 0 := rfl
    rw [e]
    by_cases c : sbt (u : Int) x = true
    · rw [if_pos c]
    · rw [if_neg c]
  | succ K ih =>
    intro hK
    obtain ⟨b1, b2, -⟩ := hW.2.2.2 K (by omega)
    have e : ∀ j, ccV t (K + 1) j = ccV t K j + (if 9 * t (20 + 2 * K) + t (21 + 2 * K) = (j : Int) then wK K else 0) := fun _ => rfl
    have s1 : smA (fun x => if sbt (u : Int) x = true then ccV t (K + 1) (9 * s + x) else 0) 9 = smA (fun x => (if sbt (u : Int) x = true then ccV t K (9 * s + x) else 0) + (if sbt (u : Int) x = true then (if 9 * t (20 + 2 * K) + t (21 + 2 * K) = ((9 * s + x : Nat) : Int) then wK K else 0) else 0)) 9 := smA_c 9 (fun x _ => by
      by_cases c : sbt (u : Int) x = true
      · rw [if_pos c, if_pos c, if_pos c, e]
      · rw [if_neg c, if_neg c, if_neg c]
        rfl)
    rw [s1, smA_a, ih (by omega)]
    show _ = smA (fun k => if (decide (t (20 + 2 * k) = (s : Int)) && sbt (u : Int) (t (21 + 2 * k)).toNat) = true then wK k else 0) K + (if (decide (t (20 + 2 * K) = (s : Int)) && sbt (u : Int) (t (21 + 2 * K)).toNat) = true then wK K else 0)
    refine congrArg _ ?_
    by_cases c : (decide (t (20 + 2 * K) = (s : Int)) && sbt (u : Int) (t (21 + 2 * K)).toNat) = true
    · rw [if_pos c]
      rw [Bool.and_eq_true, decide_eq_true_iff] at c
      have s2 := smA_1 (f := fun x => if sbt (u : Int) x = true then (if 9 * t (20 + 2 * K) + t (21 + 2 * K) = ((9 * s + x : Nat) : Int) then wK K else 0) else 0) (g := fun _ => 0) (x := (t (21 + 2 * K)).toNat) (d := wK K) 9 (by omega) (by rw [if_pos c.2, if_pos (by omega), Int.zero_add]) (fun k hk hne => by
        by_cases q : sbt (u : Int) k = true
        · rw [if_pos q, if_neg (by omega)]
        · rw [if_neg q])
      rw [s2, smA_0 9 (fun _ _ => rfl), Int.zero_add]
    · rw [if_neg c]
      rw [Bool.and_eq_true, decide_eq_true_iff] at c
      refine smA_0 9 (fun x hx => ?_)
      by_cases q : sbt (u : Int) x = true
      · rw [if_pos q, if_neg (fun w => c ⟨by omega, by rw [show (t (21 + 2 * K)).toNat = x by omega]; exact q⟩)]
      · rw [if_neg q]
theorem fil81_l {a : Nat} {z : Int} : ∀ (mm s n : Nat) (h : yH), mm + s = 81 → mm < n → ∃ h2, xl_J7_fill_53178_c n 5 [(a : Int), z, (s : Int), 81] h = some (0, h2) ∧ (∀ i j, ¬ (i = a ∧ s ≤ j ∧ j < 81) → h2 i j = h i j) ∧ ∀ j, s ≤ j → j < 81 → h2 a j = z := by
  intro mm
  induction mm with
  | zero =>
    intro s n h e1 e2
    obtain ⟨n, rfl⟩ : ∃ n', n = n' + 1 := ⟨n - 1, by omega⟩
    refine ⟨h, ?_, fun _ _ _ => rfl, fun j w1 w2 => by omega⟩
    rw [e_J7_fill_53178_c_5, if_neg (by omega)]
  | succ mm ih =>
    intro s n h e1 e2
    obtain ⟨n, rfl⟩ : ∃ n', n = n' + 1 := ⟨n - 1, by omega⟩
    obtain ⟨h2, f1, f2, f3⟩ := ih (s + 1) n (zup h a s z) (by omega) (by omega)
    refine ⟨h2, ?_, fun i j w => by rw [f2 i j (by omega), zup_ne (by omega)], fun j w1 w2 => ?_⟩
    · rw [e_J7_fill_53178_c_5, if_pos (by omega), xg_pos (by omega), xh_e, xg_pos (by omega), Int.toNat_natCast, Int.toNat_natCast, show (s : Int) + 1 = ((s + 1 : Nat) : Int) by omega]
      exact f1
    · by_cases y : j = s
      · rw [y, f2 a s (by omega), zup_at]
      · exact f3 j (by omega) w2
theorem fw10_l {b : Nat} {t : Nat → Int} (hW : tW2 t) : ∀ (mm k n : Nat) (h : yH), (mm : Int) + k = t 1 → mm ≤ n → oC b t h → (∀ j, j < 81 → h 186 j = ccV t k j) →
    ∃ n' h2, xl_X3_fewestWithout n 10 [180, (b : Int), (k : Int)] h = xl_X3_fewestWithout n' 10 [180, (b : Int), t 1] h2 ∧ n = n' + mm ∧ (∀ i j, i ≠ 186 → h2 i j = h i j) ∧ ∀ j, j < 81 → h2 186 j = ccV t (t 1).toNat j := by
  have w1 := hW.2.1
  intro mm
  induction mm with
  | zero =>
    intro k n h e1 e2 H I
    exact ⟨n, h, by rw [show (k : Int) = t 1 by omega], by omega, fun _ _ _ => rfl, fun j hj => by rw [I j hj, show (t 1).toNat = k by omega]⟩
  | succ mm ih =>
    intro k n h e1 e2 H I
    obtain ⟨n, rfl⟩ : ∃ n', n = n' + 1 := ⟨n - 1, by omega⟩
    obtain ⟨hb, q, p, o⟩ := id H
    obtain ⟨b1, b2, -⟩ := hW.2.2.2 k (by omega)
    obtain ⟨r1, r2⟩ := q.2.2.2 k (by omega)
    obtain ⟨u1, u2, u3, u4⟩ := wK16 ⟨k, by omega⟩
    simp only at u1 u2 u3 u4
    have e3 : ((b : Int) + 3).toNat = b + 3 := by omega
    have e4 : ((b : Int) + 4).toNat = b + 4 := by omega
    obtain ⟨j0, ej⟩ : ∃ j0 : Nat, 9 * t (20 + 2 * k) + t (21 + 2 * k) = (j0 : Int) := ⟨(9 * t (20 + 2 * k) + t (21 + 2 * k)).toNat, by omega⟩
    have j81 : j0 < 81 := by omega
    have e : ∀ j, ccV t (k + 1) j = ccV t k j + (if 9 * t (20 + 2 * k) + t (21 + 2 * k) = (j : Int) then wK k else 0) := fun _ => rfl
    have cb := ccV_b (t := t) (K := k) (j := j0) (by omega)
    obtain ⟨n', h2, f1, f2, f3, f4⟩ := ih (k + 1) n (zup h 186 j0 (ccV t k j0 + wK k)) (by omega) (by omega) (H.fr (fun a j w => zup_ne (by omega))) (fun j hj => by
      rw [e, ej]
      by_cases y : j = j0
      · rw [y, zup_at, if_pos rfl]
      · rw [zup_ne (by omega), if_neg (by omega), Int.add_zero, I j hj])
    refine ⟨n', h2, ?_, by omega, fun i j w => by rw [f3 i j w, zup_ne (by omega)], f4⟩
    rw [e_X3_fewestWithout_10, Int.toNat_natCast, Int.toNat_natCast, e3, e4, q.2.1, if_pos (by omega), xg_pos o.2.2.2.2.2, xg_pos p.2.2.1, xg_pos (by omega), r1, r2, xg_pos (by omega), xg_pos p.2.2.2, xg_pos (by omega), ej, xg_pos (by omega), xg_pos (by omega), u1, xg_pos (by omega), Int.toNat_natCast, I j0 j81, xg_pos (by omega), xg_pos (by omega), xg_pos (by omega), show (k : Int) + 1 = ((k + 1 : Nat) : Int) by omega]
    exact f1
theorem cbC_l {s : Nat} {set : Int} {h : yH} (o : cPo h) (hs : s < 9) (hb : ∀ j, j < 81 → 0 ≤ h 186 j ∧ h 186 j ≤ 1572864) : ∀ (mm x n : Nat) (acc : Int), mm + x = 9 → mm < n → (0 ≤ acc ∧ acc ≤ 1572864 * (x : Int)) → xl_X3_costBehind n 5 [180, (s : Int), set, acc, (x : Int)] h = some (acc + smA (fun k => if sbt set (x + k) = true then h 186 (9 * s + (x + k)) else 0) mm, h) := by
  intro mm
  induction mm with
  | zero =>
    intro x n acc e1 e2 ha
    obtain ⟨n, rfl⟩ : ∃ n', n = n' + 1 := ⟨n - 1, by omega⟩
    rw [e_X3_costBehind_5, if_neg (by omega)]
    show _ = some (acc + 0, h)
    rw [Int.add_zero]
  | succ mm ih =>
    intro x n acc e1 e2 ha
    obtain ⟨n, rfl⟩ : ∃ n', n = n' + 1 := ⟨n - 1, by omega⟩
    have ex : (x : Int) + 1 = ((x + 1 : Nat) : Int) := by omega
    have e9 : (9 * (s : Int) + (x : Int)).toNat = 9 * s + x := by omega
    have b := hb (9 * s + x) (by omega)
    have sh : smA (fun k => if sbt set (x + k) = true then h 186 (9 * s + (x + k)) else 0) (mm + 1) = (if sbt set x = true then h 186 (9 * s + x) else 0) + smA (fun k => if sbt set (x + 1 + k) = true then h 186 (9 * s + (x + 1 + k)) else 0) mm := by
      rw [smA_f]
      show (if sbt set (x + 0) = true then h 186 (9 * s + (x + 0)) else 0) + _ = _
      rw [Nat.add_zero]
      refine congrArg _ (smA_c mm (fun k _ => ?_))
      rw [show x + 1 + k = x + (k + 1) by omega]
    rw [e_X3_costBehind_5, if_pos (by omega), sh]
    rcases sb_c (x := set) (c := x) (by omega) with ⟨c, c2⟩ | ⟨c, c2⟩
    · rw [if_pos c, xg_pos o.2.2.2.2.2, xg_pos (by omega), xg_pos (by omega), xg_pos (by omega), e9, xg_pos (by omega), xg_pos (by omega), ex, ih (x + 1) n _ (by omega) (by omega) (by omega), if_pos c2, Int.add_assoc]
    · rw [if_neg (by rw [c]; decide), xg_pos (by omega), ex, ih (x + 1) n acc (by omega) (by omega) (by omega), c2, if_neg (by decide), Int.zero_add]
theorem cbH_e {n s u : Nat} {t : Nat → Int} {h : yH} (hn : 10 ≤ n) (hW : tW2 t) (o : cPo h) (hs : s < 9) (I : ∀ j, j < 81 → h 186 j = ccV t (t 1).toNat j) : f_X3_costBehind n [180, (s : Int), (u : Int)] h = some (cbV t s u, h) := by
  have w1 := hW.2.1
  have l := cbC_l (set := (u : Int)) o hs (fun j hj => by rw [I j hj]; exact ccV_b (by omega)) 9 0 n 0 rfl (by omega) (by decide)
  rw [show ((0 : Nat) : Int) = 0 from rfl] at l
  rw [e_X3_costBehind, l, Int.zero_add]
  have e : smA (fun k => if sbt (u : Int) (0 + k) = true then h 186 (9 * s + (0 + k)) else 0) 9 = smA (fun x => if sbt (u : Int) x = true then ccV t (t 1).toNat (9 * s + x) else 0) 9 := smA_c 9 (fun k hk => by
    rw [Nat.zero_add]
    by_cases c : sbt (u : Int) k = true
    · rw [if_pos c, if_pos c, I _ (by omega)]
    · rw [if_neg c, if_neg c])
  rw [e, cb_sw hW hs (t 1).toNat (by omega)]
  rfl
theorem inN_l {N u : Nat} (hN : N ≤ 9) (hu : u < 2 ^ N) : inN N u := by
  have p : 2 ^ N ≤ 512 := (p2_e hN).2.1
  refine ⟨by omega, fun x hx hb => ?_⟩
  rw [sb_T hx] at hb
  by_cases z : x < N
  · exact z
  · have : 2 ^ N ≤ 2 ^ x := Nat.pow_le_pow_right (by decide) (by omega)
    rw [Nat.testBit_lt_two_pow (by omega)] at hb
    cases hb
/-- the least costs so far: the sets below q have told theirs, and q to the sayings below s -/
def dmI (t : Nat → Int) (N q s : Nat) (h : yH) : Prop := h 185 0 = 0 ∧ ∀ u, u ≠ 0 → u < 2 ^ N → ∀ w : Int, w ≤ h 185 u ↔ (w ≤ 2147483647 ∧ ∀ k, k < N → sbt (u : Int) k = true → (u - 2 ^ k < q ∨ (u - 2 ^ k = q ∧ k < s)) → w ≤ dpV t N (u - 2 ^ k) + cbV t k (u - 2 ^ k))
theorem dmI_f {t : Nat → Int} {N q s : Nat} {h : yH} (hN : N ≤ 9) (J : dmI t N q s h) (hq : q < 2 ^ N) : h 185 q = dpV t N q := by
  have p : 2 ^ N ≤ 512 := (p2_e hN).2.1
  by_cases z : q = 0
  · rw [z, J.1, dpV_0]
  · rw [dpV_e z (by omega)]
    refine ge_eq (fun w => (J.2 q z hq w).trans (Iff.trans ?_ (mn_c N).symm))
    constructor
    · rintro ⟨h1, h2⟩
      refine ⟨h1, fun k hk => ?_⟩
      unfold dpT
      by_cases c : sbt (q : Int) k = true
      · obtain ⟨-, q2, -⟩ := s9t (show q < 512 by omega) (by omega) c
        have p : 1 ≤ 2 ^ k := Nat.one_le_two_pow
        rw [if_pos c]
        exact h2 k hk c (Or.inl (by omega))
      · rw [if_neg c]; exact h1
    · rintro ⟨h1, h2⟩
      refine ⟨h1, fun k hk c _ => ?_⟩
      have := h2 k hk
      unfold dpT at this
      rw [if_pos c] at this
      exact this
theorem fw89_l {b q : Nat} {t : Nat → Int} {N : Nat} (hW : tW2 t) (hN : N ≤ 9) (e0 : t 0 = (N : Int)) (hq : q + 1 < 2 ^ N) : ∀ (mm s n : Nat) (h : yH), mm + s = N → mm + 20 < n → oC b t h → (∀ j, j < 81 → h 186 j = ccV t (t 1).toNat j) → dmI t N q s h →
    ∃ n' h2, xl_X3_fewestWithout n 89 [180, (b : Int), ((2 ^ N : Nat) : Int) - 1, (q : Int), (s : Int)] h = xl_X3_fewestWithout n' 81 [180, (b : Int), ((2 ^ N : Nat) : Int) - 1, ((q + 1 : Nat) : Int)] h2 ∧ n = n' + mm + 1 ∧ (∀ i j, i ≠ 185 → h2 i j = h i j) ∧ dmI t N (q + 1) 0 h2 := by
  obtain ⟨p1, p2, p3⟩ := p2_e hN
  intro mm
  induction mm with
  | zero =>
    intro s n h e1 e2 H I J
    obtain ⟨n, rfl⟩ : ∃ n', n = n' + 1 := ⟨n - 1, by omega⟩
    refine ⟨n, h, ?_, by omega, fun _ _ _ => rfl, J.1, fun u u1 u2 w => (J.2 u u1 u2 w).trans ⟨fun ⟨h1, h2⟩ => ⟨h1, fun k hk c d => h2 k hk c (by omega)⟩, fun ⟨h1, h2⟩ => ⟨h1, fun k hk c d => h2 k hk c (by omega)⟩⟩⟩
    rw [e_X3_fewestWithout_89, Int.toNat_natCast, H.2.1.1, if_neg (by omega), xg_pos (by omega), show (q : Int) + 1 = ((q + 1 : Nat) : Int) by omega]
  | succ mm ih =>
    intro s n h e1 e2 H I J
    obtain ⟨n, rfl⟩ : ∃ n', n = n' + 1 := ⟨n - 1, by omega⟩
    have o := H.2.2.2
    have es : (s : Int) + 1 = ((s + 1 : Nat) : Int) := by omega
    have ps : 1 ≤ 2 ^ s := Nat.one_le_two_pow
    rw [e_X3_fewestWithout_89, Int.toNat_natCast, Int.toNat_natCast, H.2.1.1, if_pos (by omega)]
    rcases sb_c (x := (q : Int)) (c := s) (by omega) with ⟨c, c2⟩ | ⟨c, c2⟩
    · have J1 : dmI t N q (s + 1) h := ⟨J.1, fun u u1 u2 w => (J.2 u u1 u2 w).trans ⟨fun ⟨h1, h2⟩ => ⟨h1, fun k hk d e => by
        by_cases z : k = s
        · by_cases z2 : u - 2 ^ k = q
          · obtain ⟨-, -, -, r4, -⟩ := s9t (show u < 512 by omega) (by omega) d
            rw [z2, z, c2] at r4
            cases r4
          · exact h2 k hk d (by omega)
        · exact h2 k hk d (by omega)⟩, fun ⟨h1, h2⟩ => ⟨h1, fun k hk d e => h2 k hk d (by omega)⟩⟩⟩
      obtain ⟨n', h2, f1, f2, f3, f4⟩ := ih (s + 1) n h (by omega) (by omega) H I J1
      rw [if_neg (by rw [c]; decide), xg_pos (by omega), es]
      exact ⟨n', h2, f1, by omega, f3, f4⟩
    · obtain ⟨q1, q2, q3, q4⟩ := s9f (show q < 512 by omega) (show s < 9 by omega) c2
      have ub := n9F ⟨N, by omega⟩ ⟨q, by omega⟩ ⟨s, by omega⟩ (by show q < 2 ^ N; omega) (by show s < N; omega) q1
      simp only at ub
      have hq2 := dmI_f hN J (show q < 2 ^ N by omega)
      have db := dpV_b hW hN (inN_l hN (show q < 2 ^ N by omega))
      have cb : 0 ≤ cbV t s q ∧ cbV t s q ≤ 1572864 := WW_b hW
      have cbe := cbH_e (n := n) (u := q) (by omega) hW o (show s < 9 by omega) I
      obtain ⟨n', h2, f1, f2, f3, f4⟩ := ih (s + 1) n (zup h 185 (q + 2 ^ s) (min (h 185 (q + 2 ^ s)) (dpV t N q + cbV t s q))) (by omega) (by omega) (H.fr (fun a j w => zup_ne (by omega))) (fun j hj => by rw [zup_ne (by omega)]; exact I j hj) ⟨by rw [zup_ne (by omega)]; exact J.1, fun u u1 u2 w => by
        by_cases z : u = q + 2 ^ s
        · rw [z, zup_at]
          have j := J.2 (q + 2 ^ s) (by omega) ub w
          have eu : q + 2 ^ s - 2 ^ s = q := by omega
          constructor
          · intro hm
            obtain ⟨h1, h2⟩ := j.mp (by omega)
            refine ⟨h1, fun k hk d e => ?_⟩
            by_cases y : k = s
            · rw [y, eu]; omega
            · exact h2 k hk d (by omega)
          · rintro ⟨h1, h2⟩
            have k1 := j.mpr ⟨h1, fun k hk d e => h2 k hk d (by omega)⟩
            have k2 := h2 s (by omega) q4 (Or.inr (by omega))
            rw [eu] at k2
            omega
        · rw [zup_ne (by omega)]
          refine (J.2 u u1 u2 w).trans ⟨fun ⟨h1, h2⟩ => ⟨h1, fun k hk d e => ?_⟩, fun ⟨h1, h2⟩ => ⟨h1, fun k hk d e => h2 k hk d (by omega)⟩⟩
          by_cases y : k = s
          · obtain ⟨-, r2, -⟩ := s9t (show u < 512 by omega) (by omega) d
            rw [y] at e d r2 ⊢
            have := h2 s (by omega) d (by omega)
            exact this
          · exact h2 k hk d (by omega)⟩
      refine ⟨n', h2, ?_, by omega, fun i j w => by rw [f3 i j w, zup_ne (by omega)], f4⟩
      rw [if_pos c, xg_pos o.2.2.2.2.1, xg_pos o.2.2.2.2.1, q2, xg_pos (by omega), xg_pos o.2.2.2.2.1, xg_pos (by omega), cbe, xb_some, Int.toNat_natCast, hq2, xg_pos (by omega), xg_pos (by omega), xg_pos (by omega), es]
      exact f1
theorem fw81_l {b : Nat} {t : Nat → Int} {N : Nat} (hW : tW2 t) (hN : N ≤ 9) (h1 : 1 ≤ N) (e0 : t 0 = (N : Int)) : ∀ (mm q n : Nat) (h : yH), mm + q + 1 = 2 ^ N → 12 * mm + 30 ≤ n → oC b t h → (∀ j, j < 81 → h 186 j = ccV t (t 1).toNat j) → dmI t N q 0 h →
    ∃ h2, xl_X3_fewestWithout n 81 [180, (b : Int), ((2 ^ N : Nat) : Int) - 1, (q : Int)] h = some (yari 7 (dpV t N (2 ^ N - 1)) 65535, h2) ∧ ∀ i j, i ≠ 185 → h2 i j = h i j := by
  obtain ⟨p1, p2, p3⟩ := p2_e hN
  intro mm
  induction mm with
  | zero =>
    intro q n h e1 e2 H I J
    obtain ⟨n, rfl⟩ : ∃ n', n = n' + 1 := ⟨n - 1, by omega⟩
    refine ⟨h, ?_, fun _ _ _ => rfl⟩
    have eq : q = 2 ^ N - 1 := by omega
    have hv := dmI_f hN J (by omega)
    rw [e_X3_fewestWithout_81, if_neg (by omega), xg_pos H.2.2.2.2.2.2.2.1, xg_pos (by omega), show (((2 ^ N : Nat) : Int) - 1).toNat = q by omega, hv, eq]
  | succ mm ih =>
    intro q n h e1 e2 H I J
    obtain ⟨n, rfl⟩ : ∃ n', n = n' + 1 := ⟨n - 1, by omega⟩
    obtain ⟨n1, hA, A1, A2, A3, A4⟩ := fw89_l (b := b) hW hN e0 (show q + 1 < 2 ^ N by omega) N 0 n h (by omega) (by omega) H I J
    rw [show ((0 : Nat) : Int) = 0 from rfl] at A1
    obtain ⟨h2, f1, f2⟩ := ih (q + 1) n1 hA (by omega) (by omega) (H.fr (fun a j w => A3 a j (by omega))) (fun j hj => (A3 _ _ (by decide)).trans (I j hj)) A4
    refine ⟨h2, ?_, fun i j w => (f2 i j w).trans (A3 i j w)⟩
    rw [e_X3_fewestWithout_81, if_pos (by omega), A1]
    exact f1
theorem few_C {n b N : Nat} {t : Nat → Int} {h : yH} (hn : 7000 ≤ n) (hW : tW2 t) (hN : N ≤ 9) (h1 : 1 ≤ N) (e0 : t 0 = (N : Int)) (H : oC b t h) : ∃ h2, f_X3_fewestWithout n [180, (b : Int)] h = some (yari 7 (dpV t N (2 ^ N - 1)) 65535, h2) ∧ ∀ i j, i ≠ 185 → i ≠ 186 → h2 i j = h i j := by
  have w1 := hW.2.1
  obtain ⟨p1, p2, p3⟩ := p2_e hN
  obtain ⟨hA, A1, A2, A3⟩ := fil81_l (a := 186) (z := 0) 81 0 n h rfl (by omega)
  have HA : oC b t hA := H.fr (fun a j w => A2 a j (by omega))
  obtain ⟨n1, hB, B1, B2, B3, B4⟩ := fw10_l hW (t 1).toNat 0 n hA (by omega) (by omega) HA (fun j hj => A3 j (Nat.zero_le _) hj)
  have HB : oC b t hB := HA.fr (fun a j w => B3 a j (by omega))
  obtain ⟨n2, rfl⟩ : ∃ n', n1 = n' + 1 := ⟨n1 - 1, by omega⟩
  obtain ⟨hC, C1, C2, C3⟩ := fil512_l (a := 185) (z := 2147483647) 512 0 n2 hB rfl (by omega)
  have HC : oC b t (zup hC 185 0 0) := HB.fr (fun a j w => by rw [zup_ne (by omega)]; exact C2 a j (by omega))
  obtain ⟨h2, f1, f2⟩ := fw81_l hW hN h1 e0 (2 ^ N - 1) 0 n2 (zup hC 185 0 0) (by omega) (by omega) HC (fun j hj => by rw [zup_ne (by omega), C2 _ _ (by omega)]; exact B4 j hj) ⟨zup_at _ _ _ _, fun u u1 u2 w => by
    rw [zup_ne (by omega), C3 u (Nat.zero_le _) (by omega)]
    exact ⟨fun q => ⟨q, fun k _ _ d => by omega⟩, fun q => q.1⟩⟩
  rw [show ((0 : Nat) : Int) = 0 from rfl] at A1 B1 C1 f1
  rw [show ((186 : Nat) : Int) = 186 from rfl] at A1
  rw [show ((185 : Nat) : Int) = 185 from rfl] at C1
  refine ⟨h2, ?_, fun i j q1 q2 => by rw [f2 i j q1, zup_ne (by omega), C2 i j (by omega), B3 i j q2, A2 i j (by omega)]⟩
  rw [e_X3_fewestWithout, xg_pos H.2.2.2.2.2.2.2.2, e_J7_fill_53178_c, A1, xb_some, B1, e_X3_fewestWithout_10, Int.toNat_natCast, HB.2.1.2.1, if_neg (Int.lt_irrefl _), HB.2.1.1, e0, p1, xg_pos (by omega), xg_pos HB.2.2.2.2.2.2.2.1, e_J7_fill_53178_o, C1, xb_some, xg_pos ((C2 _ _ (by omega)).trans HB.2.2.2.2.2.2.2.1)]
  exact f1
end
section
/-! the fewest aheads to leave out: the reference, and both -/
def goV (t : Nat → Int) (b : Nat) : Prop := gdB (bgT t (b : Int) (t 1).toNat) (t 0).toNat
theorem p16F : ∀ A : Fin 17, yari 5 1 (A.val : Int) = ((2 ^ A.val : Nat) : Int) ∧ 2 ^ A.val ≤ 65536 ∧ 1 ≤ 2 ^ A.val := by decide +kernel
theorem p16_e {A : Nat} (h : A ≤ 16) : yari 5 1 (A : Int) = ((2 ^ A : Nat) : Int) ∧ 2 ^ A ≤ 65536 ∧ 1 ≤ 2 ^ A := p16F ⟨A, by omega⟩
theorem oc_A {t : Nat → Int} {b : Nat} (hW : tW2 t) (hb : b < 2 ^ (t 1).toNat) : 0 ≤ ocN (b : Int) 16 0 ∧ ocN (b : Int) 16 0 ≤ t 1 := by
  have w1 := hW.2.1
  have o : ocN (b : Int) 16 0 = smA (fun k => if sbt (b : Int) k = true then 1 else 0) (t 1).toNat := by
    rw [oc_s, smA_c (g := fun k => if sbt (b : Int) k = true then 1 else 0) 16 (fun k _ => by rw [Nat.zero_add]), show (16 : Nat) = (t 1).toNat + (16 - (t 1).toNat) by omega]
    refine smA_x _ (fun k h1 h2 => if_neg (fun w => ?_))
    rw [sb_T (by omega)] at w
    have : 2 ^ (t 1).toNat ≤ 2 ^ k := Nat.pow_le_pow_right (by decide) h1
    rw [Nat.testBit_lt_two_pow (by omega)] at w
    cases w
  have s := smA_b (f := fun k => if sbt (b : Int) k = true then (1 : Int) else 0) (B := 1) (t 1).toNat (fun k _ => by
    by_cases c : sbt (b : Int) k = true
    · rw [if_pos c]; decide
    · rw [if_neg c]; decide)
  rw [o]
  omega
/-- one number of aheads, as so many as x -/
theorem fa12_l {d x : Nat} {t : Nat → Int} (hW : tW2 t) (hh : wh2 t) (hx : x ≤ 17) : ∀ (mm b n : Nat) (g : yH), mm + b = 2 ^ (t 1).toNat → mm + 400 ≤ n → oR d t g →
    ∃ n' g2, (∀ i j, i ≠ 29 → i ≠ 33 → g2 i j = g i j) ∧ ((∃ b' : Nat, (b ≤ b' ∧ b' < 2 ^ (t 1).toNat) ∧ xl_X12_fewestAheads n 12 [35, (x : Int), (b : Int)] g = some ((b' : Int), g2) ∧ ocN (b' : Int) 16 0 = (x : Int) ∧ goV t b' ∧ ∀ c : Nat, b ≤ c → c < b' → ocN (c : Int) 16 0 = (x : Int) → ¬ goV t c) ∨ (xl_X12_fewestAheads n 12 [35, (x : Int), (b : Int)] g = xl_X12_fewestAheads n' 2 [35, ((x + 1 : Nat) : Int)] g2 ∧ n ≤ n' + mm + 1 ∧ ∀ c : Nat, b ≤ c → c < 2 ^ (t 1).toNat → ocN (c : Int) 16 0 = (x : Int) → ¬ goV t c)) := by
  have w0 := hW.1
  have w1 := hW.2.1
  obtain ⟨p1, p2, p3⟩ := p16_e (A := (t 1).toNat) (by omega)
  rw [show (((t 1).toNat : Nat) : Int) = t 1 by omega] at p1
  intro mm
  induction mm with
  | zero =>
    intro b n g e1 e2 H
    obtain ⟨n, rfl⟩ : ∃ n', n = n' + 1 := ⟨n - 1, by omega⟩
    refine ⟨n, g, fun _ _ _ _ => rfl, Or.inr ⟨?_, by omega, fun c h1 h2 => by omega⟩⟩
    rw [e_X12_fewestAheads_12, H.2.2.2.2.1, p1, if_neg (by omega), xg_pos (by omega), show (x : Int) + 1 = ((x + 1 : Nat) : Int) by omega]
  | succ mm ih =>
    intro b n g e1 e2 H
    obtain ⟨n, rfl⟩ : ∃ n', n = n' + 1 := ⟨n - 1, by omega⟩
    have eb : (b : Int) + 1 = ((b + 1 : Nat) : Int) := by omega
    -- the next number, if this one is none
    have nxt : ∀ g1 : yH, (∀ i j, i ≠ 29 → i ≠ 33 → g1 i j = g i j) → (ocN (b : Int) 16 0 = (x : Int) → ¬ goV t b) → xl_X12_fewestAheads (n + 1) 12 [35, (x : Int), (b : Int)] g = xl_X12_fewestAheads n 12 [35, (x : Int), ((b + 1 : Nat) : Int)] g1 → ∃ n' g2, (∀ i j, i ≠ 29 → i ≠ 33 → g2 i j = g i j) ∧ ((∃ b' : Nat, (b ≤ b' ∧ b' < 2 ^ (t 1).toNat) ∧ xl_X12_fewestAheads (n + 1) 12 [35, (x : Int), (b : Int)] g = some ((b' : Int), g2) ∧ ocN (b' : Int) 16 0 = (x : Int) ∧ goV t b' ∧ ∀ c : Nat, b ≤ c → c < b' → ocN (c : Int) 16 0 = (x : Int) → ¬ goV t c) ∨ (xl_X12_fewestAheads (n + 1) 12 [35, (x : Int), (b : Int)] g = xl_X12_fewestAheads n' 2 [35, ((x + 1 : Nat) : Int)] g2 ∧ n + 1 ≤ n' + (mm + 1) + 1 ∧ ∀ c : Nat, b ≤ c → c < 2 ^ (t 1).toNat → ocN (c : Int) 16 0 = (x : Int) → ¬ goV t c)) := fun g1 h1 h2 h3 => by
      obtain ⟨n', g2, f1, f2⟩ := ih (b + 1) n g1 (by omega) (by omega) (H.fr (fun a j w => h1 a j (by omega) (by omega)))
      refine ⟨n', g2, fun i j q1 q2 => (f1 i j q1 q2).trans (h1 i j q1 q2), ?_⟩
      rcases f2 with ⟨b', k1, k2, k3, k4, k5⟩ | ⟨k2, k3, k4⟩
      · refine Or.inl ⟨b', by omega, h3.trans k2, k3, k4, fun c q1 q2 q3 => ?_⟩
        by_cases z : c = b
        · rw [z] at q3 ⊢; exact h2 q3
        · exact k5 c (by omega) q2 q3
      · refine Or.inr ⟨h3.trans k2, by omega, fun c q1 q2 q3 => ?_⟩
        by_cases z : c = b
        · rw [z] at q3 ⊢; exact h2 q3
        · exact k4 c (by omega) q2 q3
    have st := e_X12_fewestAheads_12 (n := n) (x1 := (x : Int)) (x2 := (b : Int)) (h := g)
    rw [H.2.2.2.2.1, p1, if_pos (by omega), on_e (by omega), xb_some] at st
    by_cases c : ocN (b : Int) 16 0 = (x : Int)
    · obtain ⟨gA, A1, A2, A3⟩ := lay_e (n := n) (but := (b : Int)) (by omega) hW hh H
      have HA : oR d t gA := H.fr (fun a j w => A2 a j (by omega))
      obtain ⟨v, gB, B1, B2, B3⟩ := lfR_e (n := n) (by omega) hW HA A3
      rw [if_pos c, A1, xb_some, B1, xb_some] at st
      have fr : ∀ i j, i ≠ 29 → i ≠ 33 → gB i j = g i j := fun i j q1 q2 => (B2 i j q2).trans (A2 i j q1)
      rcases B3 with ⟨v1, B4⟩ | ⟨v0, j, B4, B5⟩
      · rw [if_neg (by omega)] at st
        exact ⟨n, gB, fr, Or.inl ⟨b, by omega, st, c, fun i hi => (B4 i (by omega)).1, fun c' q1 q2 => by omega⟩⟩
      · rw [if_pos v0, xg_pos (by omega), eb] at st
        exact nxt gB fr (fun _ w => w j (by omega) B5) st
    · rw [if_neg c, xg_pos (by omega), eb] at st
      exact nxt g (fun _ _ _ _ => rfl) (fun w => absurd w c) st
theorem fa2_l {d : Nat} {t : Nat → Int} (hW : tW2 t) (hh : wh2 t) : ∀ (M x n : Nat) (g : yH), (M : Int) + x = t 1 + 1 → (2 ^ (t 1).toNat + 2) * M + 400 ≤ n → oR d t g → (∃ b0 : Nat, b0 < 2 ^ (t 1).toNat ∧ goV t b0 ∧ (x : Int) ≤ ocN (b0 : Int) 16 0) →
    ∃ (b' : Nat) (g2 : yH), xl_X12_fewestAheads n 2 [35, (x : Int)] g = some ((b' : Int), g2) ∧ (∀ i j, i ≠ 29 → i ≠ 33 → g2 i j = g i j) ∧ b' < 2 ^ (t 1).toNat ∧ goV t b' ∧ ∀ c : Nat, c < 2 ^ (t 1).toNat → goV t c → (x : Int) ≤ ocN (c : Int) 16 0 → 65536 * ocN (b' : Int) 16 0 + (b' : Int) ≤ 65536 * ocN (c : Int) 16 0 + (c : Int) := by
  have w0 := hW.1
  have w1 := hW.2.1
  obtain ⟨p1, p2, p3⟩ := p16_e (A := (t 1).toNat) (by omega)
  intro M
  induction M with
  | zero =>
    intro x n g e1 e2 H ⟨b0, h1, h2, h3⟩
    have := oc_A hW h1
    omega
  | succ M ih =>
    intro x n g e1 e2 H ⟨b0, h1, h2, h3⟩
    obtain ⟨n, rfl⟩ : ∃ n', n = n' + 1 := ⟨n - 1, by omega⟩
    rw [Nat.mul_succ] at e2
    have st : xl_X12_fewestAheads (n + 1) 2 [35, (x : Int)] g = xl_X12_fewestAheads n 12 [35, (x : Int), ((0 : Nat) : Int)] g := by
      rw [e_X12_fewestAheads_2, H.2.2.2.2.1, if_neg (by omega)]
      rfl
    obtain ⟨n', g2, f1, f2⟩ := fa12_l (x := x) hW hh (by omega) (2 ^ (t 1).toNat) 0 n g (by omega) (by omega) H
    rcases f2 with ⟨b', k1, k2, k3, k4, k5⟩ | ⟨k2, k3, k4⟩
    · refine ⟨b', g2, st.trans k2, f1, k1.2, k4, fun c q1 q2 q3 => ?_⟩
      by_cases z : ocN (c : Int) 16 0 = (x : Int)
      · by_cases z2 : c < b'
        · exact absurd q2 (k5 c (Nat.zero_le _) z2 z)
        · omega
      · omega
    · have no : ∀ c : Nat, c < 2 ^ (t 1).toNat → goV t c → (x : Int) ≤ ocN (c : Int) 16 0 → ((x + 1 : Nat) : Int) ≤ ocN (c : Int) 16 0 := fun c q1 q2 q3 => by
        by_cases z : ocN (c : Int) 16 0 = (x : Int)
        · exact absurd q2 (k4 c (Nat.zero_le _) q1 z)
        · omega
      obtain ⟨b', g3, m1, m2, m3, m4, m5⟩ := ih (x + 1) n' g2 (by omega) (by omega) (H.fr (fun a j w => f1 a j (by omega) (by omega))) ⟨b0, h1, h2, no b0 h1 h2 h3⟩
      exact ⟨b', g3, st.trans (k2.trans m1), fun i j q1 q2 => (m2 i j q1 q2).trans (f1 i j q1 q2), m3, m4, fun c q1 q2 q3 => m5 c q1 q2 (no c q1 q2 q3)⟩
theorem r16_e {x : Int} (h : 0 ≤ x ∧ x < 2147483648) : yari 7 x 65535 = x % 65536 := by
  obtain ⟨a, rfl⟩ : ∃ a : Nat, x = (a : Int) := ⟨x.toNat, by omega⟩
  have e : (Int32.ofInt (a : Int) &&& Int32.ofInt ((65535 : Nat) : Int)) = Int32.ofInt ((a % 65536 : Nat) : Int) := by
    apply Int32.toBitVec_inj.mp
    rw [Int32.toBitVec_and, i32_n, i32_n, i32_n]
    apply BitVec.eq_of_toNat_eq
    rw [BitVec.toNat_and, BitVec.toNat_ofNat, BitVec.toNat_ofNat, BitVec.toNat_ofNat, Nat.mod_eq_of_lt (show a < 2 ^ 32 by omega), Nat.mod_eq_of_lt (show 65535 < 2 ^ 32 by omega), Nat.mod_eq_of_lt (show a % 65536 < 2 ^ 32 by omega)]
    exact Nat.and_two_pow_sub_one_eq_mod a 16
  show (Int32.ofInt (a : Int) &&& Int32.ofInt ((65535 : Nat) : Int)).toInt = _
  rw [e, Int32.toInt_ofInt_of_le (by omega) (by omega)]
  omega
/-- the fewest of both -/
theorem few_e {n m b d : Nat} {t : Nat → Int} {h g : yH} (hn : 7000 ≤ n) (hm : 1200000 ≤ m) (hW : tW2 t) (hh : wh2 t) (H : oC b t h) (HR : oR d t g) :
    ∃ v h2 g2, f_X3_fewestWithout n [180, (b : Int)] h = some (v, h2) ∧ f_X12_fewestAheads m [35] g = some (v, g2) ∧ (∀ a j, a ≠ 185 → a ≠ 186 → h2 a j = h a j) ∧ ∀ a j, a ≠ 29 → a ≠ 33 → g2 a j = g a j := by
  have w0 := hW.1
  have w1 := hW.2.1
  have h1 := hh.1
  obtain ⟨N, e0⟩ : ∃ N : Nat, t 0 = (N : Int) := ⟨(t 0).toNat, by omega⟩
  have hN : N ≤ 9 := by omega
  have eN : (t 0).toNat = N := by omega
  obtain ⟨p1, p2, p3⟩ := p2_e hN
  obtain ⟨r1, r2, r3⟩ := p16_e (A := (t 1).toNat) (by omega)
  have fb : ∀ k : Nat, (k : Int) < t 1 → (t (20 + 2 * k)).toNat < N ∧ (t (21 + 2 * k)).toNat < N ∧ 0 ≤ t (20 + 2 * k) ∧ 0 ≤ t (21 + 2 * k) := fun k hk => by
    obtain ⟨b1, b2, -⟩ := hW.2.2.2 k (by omega)
    obtain ⟨c1, c2⟩ := hh.2 k (by omega) hk
    omega
  have full : ∀ x, x < N → sbt ((2 ^ N - 1 : Nat) : Int) x = true := fun x hx => by
    rw [sb_T (by omega), Nat.testBit_two_pow_sub_one, decide_eq_true hx]
  have iN := inN_l hN (show 2 ^ N - 1 < 2 ^ N by omega)
  -- ranks and greed
  have gr : ∀ (c : Nat) (r : Nat → Nat), (∀ k : Nat, (k : Int) < t 1 → sbt (c : Int) k = false → r (t (20 + 2 * k)).toNat < r (t (21 + 2 * k)).toNat) → goV t c := fun c r hr => by
    unfold goV
    rw [eN]
    refine gd_r (r := r) hN (fun x y hx hy hb => ?_)
    obtain ⟨k, k1, k2, k3, k4⟩ := (bgT_c hW (t 1).toNat (by omega) x y hy).mp hb
    have f := fb k (by omega)
    have q := hr k (by omega) k3
    rw [k2, k4, Int.toNat_natCast, Int.toNat_natCast] at q
    rw [k4, Int.toNat_natCast] at f
    exact ⟨f.1, q⟩
  have rg : ∀ c : Nat, goV t c → ∃ r : Nat → Nat, ∀ k : Nat, (k : Int) < t 1 → sbt (c : Int) k = false → r (t (20 + 2 * k)).toNat < r (t (21 + 2 * k)).toNat := fun c hc => by
    unfold goV at hc
    rw [eN] at hc
    obtain ⟨r, hr⟩ := gd_p hN hc
    refine ⟨r, fun k hk hb => ?_⟩
    obtain ⟨f1, f2, f3, f4⟩ := fb k hk
    exact hr _ _ f2 (by omega) ((bgT_c hW (t 1).toNat (by omega) _ _ (by omega)).mpr ⟨k, by omega, by omega, hb, by omega⟩)
  -- the least cost is some number's
  obtain ⟨P, r, B, d1, d2, d3, d4⟩ := dp_1 hW hN (2 ^ N - 1) (2 ^ N - 1) (Nat.le_refl _) iN
  obtain ⟨b1, b2, b3, b4⟩ := nb_P (P := P) hW
  have g1 : goV t b1 := gr b1 r (fun k hk hb => by
    obtain ⟨f1, f2, -⟩ := fb k hk
    exact d4 k hk (full _ f1) (full _ f2) (by rw [← b3 k hk]; exact hb))
  have low : ∀ c : Nat, c < 2 ^ (t 1).toNat → goV t c → dpV t N (2 ^ N - 1) ≤ 65536 * ocN (c : Int) 16 0 + (c : Int) := fun c hc hg => by
    obtain ⟨r, hr⟩ := rg c hg
    rw [← WW_n hW hc]
    refine Int.le_trans (dp_2 hW hN (Q := fun k => sbt (c : Int) k) hr (2 ^ N - 1) (2 ^ N - 1) (Nat.le_refl _) iN) (WW_le (fun k _ q => ?_))
    rw [Bool.and_eq_true] at q
    exact q.1
  obtain ⟨h2, f1, f2⟩ := few_C (b := b) hn hW hN (by omega) e0 H
  have fuel : (2 ^ (t 1).toNat + 2) * ((t 1).toNat + 1) ≤ 65538 * 17 := Nat.mul_le_mul (by omega) (by omega)
  obtain ⟨b', g2, k1, k2, k3, k4, k5⟩ := fa2_l (d := d) hW hh ((t 1).toNat + 1) 0 m g (by omega) (by omega) HR ⟨b1, b2, g1, by have := oc_A hW b2; omega⟩
  have l1 := k5 b1 b2 g1 (by have := oc_A hW b2; omega)
  have l2 := low b' k3 k4
  have ob := oc_A hW k3
  have ev : dpV t N (2 ^ N - 1) = 65536 * ocN (b' : Int) 16 0 + (b' : Int) := by omega
  rw [show ((0 : Nat) : Int) = 0 from rfl] at k1
  refine ⟨(b' : Int), h2, g2, ?_, by rw [e_X12_fewestAheads]; exact k1, f2, k2⟩
  rw [f1, ev, r16_e (by omega)]
  refine congrArg (fun z => some (z, h2)) ?_
  omega
end
