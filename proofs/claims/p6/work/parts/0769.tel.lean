/-! tells: how far a word gets -/
def bt (x : Int) (k : Nat) : Bool := decide (x / 2 ^ k % 2 = 1)
theorem orF0 : ∀ x y : Fin 64, yari 8 (x.val : Int) (y.val : Int) = ((x.val ||| y.val : Nat) : Int) := by decide +kernel
theorem orF1 : ∀ x y : Fin 64, (x.val ||| y.val) ≤ 63 ∧ (∀ k : Fin 6, bt ((x.val ||| y.val : Nat) : Int) k.val = (bt (x.val : Int) k.val || bt (y.val : Int) k.val)) ∧ ((x.val ||| y.val) = x.val ∨ bcn (x.val : Int) + 1 ≤ bcn ((x.val ||| y.val : Nat) : Int)) ∧ (∀ k : Fin 7, x.val < 2 ^ k.val → y.val < 2 ^ k.val → (x.val ||| y.val) < 2 ^ k.val) := by decide +kernel
theorem orF (x y : Fin 64) : (0 ≤ yari 8 (x.val : Int) (y.val : Int) ∧ yari 8 (x.val : Int) (y.val : Int) ≤ 63) ∧ (∀ k : Fin 6, bt (yari 8 (x.val : Int) (y.val : Int)) k.val = (bt (x.val : Int) k.val || bt (y.val : Int) k.val)) ∧ (yari 8 (x.val : Int) (y.val : Int) = (x.val : Int) ∨ bcn (x.val : Int) + 1 ≤ bcn (yari 8 (x.val : Int) (y.val : Int))) ∧ (∀ k : Fin 7, x.val < 2 ^ k.val → y.val < 2 ^ k.val → yari 8 (x.val : Int) (y.val : Int) < 2 ^ k.val) := by
  obtain ⟨h1, h2, h3, h4⟩ := orF1 x y
  rw [orF0 x y]
  refine ⟨⟨Int.natCast_nonneg _, by omega⟩, h2, h3.imp (fun w => by rw [w]) (fun w => w), fun k w1 w2 => ?_⟩
  have := h4 k w1 w2
  have e : ((2 : Int) ^ k.val) = ((2 ^ k.val : Nat) : Int) := by rw [Int.natCast_pow]; rfl
  rw [e]
  exact Int.ofNat_lt.mpr this
theorem or_b {x y : Int} (hx : 0 ≤ x ∧ x ≤ 63) (hy : 0 ≤ y ∧ y ≤ 63) : (0 ≤ yari 8 x y ∧ yari 8 x y ≤ 63) ∧ (∀ k, k < 6 → bt (yari 8 x y) k = (bt x k || bt y k)) ∧ (yari 8 x y = x ∨ bcn x + 1 ≤ bcn (yari 8 x y)) ∧ ∀ k : Nat, k ≤ 6 → x < 2 ^ k → y < 2 ^ k → yari 8 x y < 2 ^ k := by
  obtain ⟨c, rfl⟩ : ∃ c : Fin 64, x = (c.val : Int) := ⟨⟨x.toNat, by omega⟩, by simp only; omega⟩
  obtain ⟨d, rfl⟩ : ∃ d : Fin 64, y = (d.val : Int) := ⟨⟨y.toNat, by omega⟩, by simp only; omega⟩
  obtain ⟨h1, h2, h3, h4⟩ := orF c d
  refine ⟨h1, fun k hk => h2 ⟨k, hk⟩, h3, fun k hk w1 w2 => h4 ⟨k, by omega⟩ ?_ ?_⟩
  · have : ((c.val : Nat) : Int) < ((2 ^ k : Nat) : Int) := by rw [Int.natCast_pow]; exact w1
    exact Int.ofNat_lt.mp this
  · have : ((d.val : Nat) : Int) < ((2 ^ k : Nat) : Int) := by rw [Int.natCast_pow]; exact w2
    exact Int.ofNat_lt.mp this
theorem bitF : ∀ x : Fin 64, (∀ k : Fin 7, (x.val : Int) < 2 ^ k.val → bcn (x.val : Int) ≤ (k.val : Int) ∧ ∀ j : Fin 6, k.val ≤ j.val → bt (x.val : Int) j.val = false) ∧ (∀ k : Fin 6, (decide (yari 7 (yari 6 (x.val : Int) (k.val : Int)) 1 = 1)) = bt (x.val : Int) k.val) := by decide +kernel
theorem bit_b {x : Int} (hx : 0 ≤ x ∧ x ≤ 63) : (∀ k : Nat, k ≤ 6 → x < 2 ^ k → bcn x ≤ (k : Int) ∧ ∀ j, j < 6 → k ≤ j → bt x j = false) ∧ ∀ k : Nat, k < 6 → (yari 7 (yari 6 x (k : Int)) 1 = 1 ↔ bt x k = true) := by
  obtain ⟨c, rfl⟩ : ∃ c : Fin 64, x = (c.val : Int) := ⟨⟨x.toNat, by omega⟩, by simp only; omega⟩
  obtain ⟨h1, h2⟩ := bitF c
  refine ⟨fun k hk w => ?_, fun k hk => ?_⟩
  · obtain ⟨a, b⟩ := h1 ⟨k, by omega⟩ w
    exact ⟨a, fun j hj w2 => b ⟨j, hj⟩ w2⟩
  · rw [← h2 ⟨k, hk⟩, decide_eq_true_iff]
theorem shF : ∀ a : Fin 6, (0 ≤ yari 5 1 (a.val : Int) ∧ yari 5 1 (a.val : Int) ≤ 63) ∧ bcn (yari 5 1 (a.val : Int)) = 1 ∧ (∀ k : Fin 7, a.val < k.val → yari 5 1 (a.val : Int) < 2 ^ k.val) ∧ ∀ k : Fin 6, bt (yari 5 1 (a.val : Int)) k.val = decide (k.val = a.val) := by decide +kernel
theorem setF : ∀ x : Fin 64, ∀ k : Fin 6, (x.val : Int) < 2 ^ k.val → yari 8 (x.val : Int) (yari 5 1 (k.val : Int)) < 2 ^ (k.val + 1) := by decide +kernel
theorem p2F : ∀ k : Fin 6, ∀ j : Fin 7, k.val ≤ j.val → (2 : Int) ^ k.val ≤ 2 ^ j.val := by decide +kernel
theorem hst_p {u : Nat → Int} {fr vo : Int} {a : Nat} : ∀ k, k ≤ 6 → hst u fr vo a k < 2 ^ k := by
  intro k
  induction k with
  | zero => intro _; exact (by decide : (0 : Int) < 1)
  | succ k ih =>
    intro hk
    have h1 := ih (by omega)
    have hb := hst_b (u := u) (fr := fr) (vo := vo) (a := a) k (by omega)
    cases e : hq u fr vo a k with
    | false =>
      rw [hst_f e]
      have := p2F ⟨k, by omega⟩ ⟨k + 1, by omega⟩ (Nat.le_succ k)
      simp only at this
      omega
    | true =>
      rw [hst_t e]
      have := setF ⟨(hst u fr vo a k).toNat, by omega⟩ ⟨k, by omega⟩
      simp only at this
      rw [show (((hst u fr vo a k).toNat : Nat) : Int) = hst u fr vo a k by omega] at this
      exact this h1
theorem hrs_p {u : Nat → Int} {a : Nat} (hW : tW0 u) : hrs u a < 2 ^ (u 6).toNat := hst_p _ (by have := hW.wd; omega)
/-- all who hear one of those -/
def hfA (u : Nat → Int) (x : Int) : Nat → Nat → Int → Int
  | 0, _, a => a
  | m + 1, k, a => if (k : Int) < u 6 then (if bt x k = true then hfA u x m (k + 1) (yari 8 a (hrs u k)) else hfA u x m (k + 1) a) else a
def hfa (u : Nat → Int) (x : Int) : Int := hfA u x 7 0 0
theorem hfA_b {u : Nat → Int} {x : Int} (hW : tW0 u) : ∀ (m k : Nat) (a : Int), 0 ≤ a ∧ a ≤ 63 → (0 ≤ hfA u x m k a ∧ hfA u x m k a ≤ 63) ∧ (a < 2 ^ (u 6).toNat → hfA u x m k a < 2 ^ (u 6).toNat) ∧ (7 ≤ m + k → ∀ c, c < 6 → (bt (hfA u x m k a) c = true ↔ bt a c = true ∨ ∃ b, k ≤ b ∧ (b : Int) < u 6 ∧ bt x b = true ∧ bt (hrs u b) c = true)) := by
  have w6 := hW.wd.2.2.2.2
  intro m
  induction m with
  | zero =>
    intro k a ha
    refine ⟨ha, fun h => h, fun w c hc => ⟨fun h => Or.inl h, fun h => h.elim (fun h => h) (fun ⟨b, b1, b2, _⟩ => by omega)⟩⟩
  | succ m ih =>
    intro k a ha
    by_cases c : (k : Int) < u 6
    · cases e : bt x k with
      | false =>
        have eA : hfA u x (m + 1) k a = hfA u x m (k + 1) a := by
          show (if (k : Int) < u 6 then (if bt x k = true then hfA u x m (k + 1) (yari 8 a (hrs u k)) else hfA u x m (k + 1) a) else a) = _
          rw [if_pos c, e, if_neg (by decide)]
        rw [eA]
        obtain ⟨i1, i2, i3⟩ := ih (k + 1) a ha
        refine ⟨i1, i2, fun w c' hc' => (i3 (by omega) c' hc').trans ⟨fun h => h.imp (fun h => h) (fun ⟨b, b1, b2⟩ => ⟨b, by omega, b2⟩), fun h => h.imp (fun h => h) (fun ⟨b, b1, b2, b3, b4⟩ => ⟨b, ?_, b2, b3, b4⟩)⟩⟩
        have : b ≠ k := fun q => by rw [q, e] at b3; cases b3
        omega
      | true =>
        have eA : hfA u x (m + 1) k a = hfA u x m (k + 1) (yari 8 a (hrs u k)) := by
          show (if (k : Int) < u 6 then (if bt x k = true then hfA u x m (k + 1) (yari 8 a (hrs u k)) else hfA u x m (k + 1) a) else a) = _
          rw [if_pos c, e, if_pos rfl]
        rw [eA]
        obtain ⟨o1, o2, o3, o4⟩ := or_b ha (hrs_b (a := k) hW)
        obtain ⟨i1, i2, i3⟩ := ih (k + 1) _ o1
        refine ⟨i1, fun w => i2 (o4 _ (by omega) w (hrs_p hW)), fun w c' hc' => (i3 (by omega) c' hc').trans ⟨fun h => ?_, fun h => ?_⟩⟩
        · rcases h with h | ⟨b, b1, b2⟩
          · rw [o2 c' hc', Bool.or_eq_true] at h
            exact h.imp (fun h => h) (fun h => ⟨k, by omega, c, e, h⟩)
          · exact Or.inr ⟨b, by omega, b2⟩
        · rcases h with h | ⟨b, b1, b2, b3, b4⟩
          · exact Or.inl (by rw [o2 c' hc', h, Bool.true_or])
          · by_cases q : b = k
            · rw [q] at b4
              exact Or.inl (by rw [o2 c' hc', b4, Bool.or_true])
            · exact Or.inr ⟨b, by omega, b2, b3, b4⟩
    · have eA : hfA u x (m + 1) k a = a := if_neg c
      rw [eA]
      exact ⟨ha, fun h => h, fun w c' hc' => ⟨fun h => Or.inl h, fun h => h.elim (fun h => h) (fun ⟨b, b1, b2, _⟩ => by omega)⟩⟩
theorem hfa_b {u : Nat → Int} {x : Int} (hW : tW0 u) : (0 ≤ hfa u x ∧ hfa u x ≤ 63) ∧ hfa u x < 2 ^ (u 6).toNat ∧ ∀ c, c < 6 → (bt (hfa u x) c = true ↔ ∃ b : Nat, (b : Int) < u 6 ∧ bt x b = true ∧ bt (hrs u b) c = true) := by
  obtain ⟨i1, i2, i3⟩ := hfA_b (x := x) hW 7 0 0 (by decide)
  refine ⟨i1, i2 ?_, fun c hc => (i3 (by decide) c hc).trans ⟨fun h => ?_, fun ⟨b, b2⟩ => Or.inr ⟨b, Nat.zero_le _, b2⟩⟩⟩
  · exact Int.pow_pos (by decide)
  · rcases h with h | ⟨b, _, b2⟩
    · have : ∀ c : Fin 6, bt 0 c.val = false := by decide +kernel
      have := this ⟨c, hc⟩
      simp only at this
      rw [this] at h
      cases h
    · exact ⟨b, b2⟩
theorem heard_l {b : Nat} {x : Int} {u : Nat → Int} {h : yH} (hx : 0 ≤ x ∧ x ≤ 63) (hS : cS b u h) (hp : cSp b h) (hW : tW0 u) : ∀ (m k n : Nat) (a : Int), 7 - k = m → (k : Int) ≤ u 6 → m + 7 ≤ n → xl_X10_heardFromAny n 4 [(b : Int), x, a, (k : Int)] h = some (hfA u x m k a, h) := by
  have w6 := hW.wd.2.2.2.2
  intro m
  induction m with
  | zero => intro k n a e1 e2; omega
  | succ m ih =>
    intro k n a e1 e2 e3
    obtain ⟨n, rfl⟩ : ∃ n', n = n' + 1 := ⟨n - 1, by omega⟩
    rw [e_X10_heardFromAny_4, Int.toNat_natCast, hS.2.2.2.2.2.2.1]
    show _ = some (if (k : Int) < u 6 then (if bt x k = true then hfA u x m (k + 1) (yari 8 a (hrs u k)) else hfA u x m (k + 1) a) else a, h)
    by_cases c : (k : Int) < u 6
    · have q := (bit_b hx).2 k (by omega)
      rw [if_pos c, if_pos c]
      by_cases c2 : bt x k = true
      · rw [if_pos (q.mpr c2), if_pos c2, asTold_e (by omega) hS hp hW c, xb_some, xg_pos (by omega), show (k : Int) + 1 = ((k + 1 : Nat) : Int) by omega, ih (k + 1) n _ (by omega) (by omega) (by omega)]
      · rw [if_neg (fun w => c2 (q.mp w)), if_neg c2, xg_pos (by omega), show (k : Int) + 1 = ((k + 1 : Nat) : Int) by omega, ih (k + 1) n _ (by omega) (by omega) (by omega)]
    · rw [if_neg c, if_neg c]
theorem heard_e {n b : Nat} {x : Int} {u : Nat → Int} {h : yH} (hn : 14 ≤ n) (hx : 0 ≤ x ∧ x ≤ 63) (hS : cS b u h) (hp : cSp b h) (hW : tW0 u) : f_X10_heardFromAny n [(b : Int), x] h = some (hfa u x, h) := by
  rw [e_X10_heardFromAny]
  exact heard_l hx hS hp hW 7 0 n 0 rfl hW.wd.2.2.2.2.1 hn
/-- who is reached with n that pass it on -/
def rsN (u : Nat → Int) (a : Nat) : Nat → Int
  | 0 => yari 5 1 (a : Int)
  | n + 1 => yari 8 (rsN u a n) (hfa u (rsN u a n))
theorem rsN_b {u : Nat → Int} {a : Nat} (hW : tW0 u) (ha : (a : Int) < u 6) : ∀ n, (0 ≤ rsN u a n ∧ rsN u a n ≤ 63) ∧ rsN u a n < 2 ^ (u 6).toNat := by
  have w6 := hW.wd.2.2.2.2
  intro n
  induction n with
  | zero =>
    obtain ⟨s1, s2, s3, s4⟩ := shF ⟨a, by omega⟩
    exact ⟨s1, s3 ⟨(u 6).toNat, by omega⟩ (by show a < (u 6).toNat; omega)⟩
  | succ n ih =>
    obtain ⟨f1, f2, f3⟩ := hfa_b (x := rsN u a n) hW
    obtain ⟨o1, o2, o3, o4⟩ := or_b ih.1 f1
    exact ⟨o1, o4 _ (by omega) ih.2 f2⟩
theorem rsN_s {u : Nat → Int} {a : Nat} (hW : tW0 u) (ha : (a : Int) < u 6) (n : Nat) {c : Nat} (hc : c < 6) : bt (rsN u a (n + 1)) c = true ↔ bt (rsN u a n) c = true ∨ ∃ b : Nat, (b : Int) < u 6 ∧ bt (rsN u a n) b = true ∧ bt (hrs u b) c = true := by
  obtain ⟨f1, f2, f3⟩ := hfa_b (x := rsN u a n) hW
  obtain ⟨o1, o2, o3, o4⟩ := or_b (rsN_b hW ha n).1 f1
  show bt (yari 8 (rsN u a n) (hfa u (rsN u a n))) c = true ↔ _
  rw [o2 c hc, Bool.or_eq_true, f3 c hc]
theorem rsN_more {u : Nat → Int} {a : Nat} (hW : tW0 u) (ha : (a : Int) < u 6) : ∀ n, (∃ m, m < n ∧ rsN u a (m + 1) = rsN u a m) ∨ (n : Int) + 1 ≤ bcn (rsN u a n) := by
  have w6 := hW.wd.2.2.2.2
  intro n
  induction n with
  | zero =>
    obtain ⟨s1, s2, s3, s4⟩ := shF ⟨a, by omega⟩
    refine Or.inr ?_
    show ((0 : Nat) : Int) + 1 ≤ bcn (yari 5 1 (a : Int))
    simp only at s2
    rw [s2]
    decide
  | succ n ih =>
    rcases ih with ⟨m, m1, m2⟩ | ih
    · exact Or.inl ⟨m, by omega, m2⟩
    · obtain ⟨f1, f2, f3⟩ := hfa_b (x := rsN u a n) hW
      obtain ⟨o1, o2, o3, o4⟩ := or_b (rsN_b hW ha n).1 f1
      rcases o3 with o3 | o3
      · exact Or.inl ⟨n, by omega, o3⟩
      · refine Or.inr ?_
        show ((n + 1 : Nat) : Int) + 1 ≤ bcn (yari 8 (rsN u a n) (hfa u (rsN u a n)))
        omega
theorem rsN_fix {u : Nat → Int} {a m : Nat} (h : rsN u a (m + 1) = rsN u a m) : ∀ d, rsN u a (m + d) = rsN u a m := by
  intro d
  induction d with
  | zero => rfl
  | succ d ih =>
    show yari 8 (rsN u a (m + d)) (hfa u (rsN u a (m + d))) = _
    rw [ih]
    exact h
theorem rsN_6 {u : Nat → Int} {a : Nat} (hW : tW0 u) (ha : (a : Int) < u 6) : rsN u a 6 = rsN u a (u 6).toNat := by
  have w6 := hW.wd.2.2.2.2
  obtain ⟨b1, b2⟩ := rsN_b hW ha (u 6).toNat
  have q := ((bit_b b1).1 (u 6).toNat (by omega) b2).1
  rcases rsN_more hW ha (u 6).toNat with ⟨m, m1, m2⟩ | w
  · have f := rsN_fix m2
    have f1 := f (6 - m)
    have f2 := f ((u 6).toNat - m)
    rw [show m + (6 - m) = 6 by omega] at f1
    rw [show m + ((u 6).toNat - m) = (u 6).toNat by omega] at f2
    rw [f1, f2]
  · omega
theorem reach_l {b a : Nat} {u : Nat → Int} {h : yH} (hS : cS b u h) (hp : cSp b h) (hW : tW0 u) (ha : (a : Int) < u 6) : ∀ (m k n : Nat), 6 - k = m → k ≤ 6 → m + 16 ≤ n → xl_X10_reachedOthers n 7 [150, (b : Int), (a : Int), rsN u a k, (k : Int)] h = some (bcn (rsN u a 6) - 1, h) := by
  intro m
  induction m with
  | zero =>
    intro k n e1 e2 e3
    obtain ⟨n, rfl⟩ : ∃ n', n = n' + 1 := ⟨n - 1, by omega⟩
    have q := bcn_b (x := rsN u a 6)
    rw [show k = 6 by omega, e_X10_reachedOthers_7, if_neg (by decide), bc_e (rsN_b hW ha 6).1, xb_some, xg_pos (by omega)]
  | succ m ih =>
    intro k n e1 e2 e3
    obtain ⟨n, rfl⟩ : ∃ n', n = n' + 1 := ⟨n - 1, by omega⟩
    rw [e_X10_reachedOthers_7, if_pos (by omega), heard_e (by omega) (rsN_b hW ha k).1 hS hp hW, xb_some, xg_pos (by omega), show (k : Int) + 1 = ((k + 1 : Nat) : Int) by omega]
    exact ih (k + 1) n (by omega) (by omega) (by omega)
/-- what tells answers of a boat that is there -/
def telV (t : Nat → Int) (x : Int) : Int := if 0 ≤ x ∧ x < t 6 then bcn (rsN t x.toNat 6) - 1 else -1
theorem tellsC_e {n s : Nat} {x : Int} {t : Nat → Int} {h : yH} (hn : 30 ≤ n) (hP : cP h) (hw : cPw h) (hb : h 6 0 ≤ 2) (hs : (s : Int) < h 6 0) (hS : cS (20 + 10 * s) t h) (hp : cSp (20 + 10 * s) h) (hW : tW0 t) : f_X11_tells n [1, (s : Int), x] h = some (telV t x, h) := by
  rw [e_X11_tells, xg_pos (hP.p (by decide)), findSea_e hP hb, xb_some, if_pos (show 0 ≤ (s : Int) ∧ (s : Int) < h 6 0 by omega), if_neg (by omega), xg_pos (by omega), show 20 + 10 * (s : Int) = ((20 + 10 * s : Nat) : Int) by omega, hasBoat_e hS, xb_some]
  unfold telV
  by_cases c : 0 ≤ x ∧ x < t 6
  · obtain ⟨a, rfl⟩ : ∃ a : Nat, x = (a : Int) := ⟨x.toNat, by omega⟩
    rw [if_pos c, if_neg (by decide), xg_pos hw.1, xg_pos (by omega), e_X10_reachedOthers, if_pos c, Int.toNat_natCast]
    have := reach_l hS hp hW c.2 6 0 n rfl (by decide) (by omega)
    rw [show ((0 : Nat) : Int) = 0 from rfl] at this
    rw [show yari 5 1 (a : Int) = rsN t a 0 from rfl, this, xb_some]
  · rw [if_neg c, if_pos rfl, if_neg c]
