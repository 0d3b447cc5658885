/-! winds -/
def cplA (u : Nat → Int) : Nat → Nat → Int → Int
  | 0, _, a => a
  | m + 1, k, a => if (k : Int) < u 6 then cplA u m (k + 1) (a + nHr u k) else a
def cpl (u : Nat → Int) : Int := cplA u 7 0 0
theorem cplA_b {u : Nat → Int} : ∀ (m k : Nat) (a : Int), 0 ≤ a → 0 ≤ cplA u m k a ∧ cplA u m k a ≤ a + 6 * m := by
  intro m
  induction m with
  | zero =>
    intro k a h
    show 0 ≤ a ∧ a ≤ a + 6 * ((0 : Nat) : Int)
    omega
  | succ m ih =>
    intro k a h
    have q := nHr_b (u := u) (b := k)
    have := ih (k + 1) (a + nHr u k) (by omega)
    show 0 ≤ (if (k : Int) < u 6 then cplA u m (k + 1) (a + nHr u k) else a) ∧ (if (k : Int) < u 6 then cplA u m (k + 1) (a + nHr u k) else a) ≤ a + 6 * ((m + 1 : Nat) : Int)
    by_cases c : (k : Int) < u 6
    · rw [if_pos c]
      omega
    · rw [if_neg c]
      omega
theorem cpl_b {u : Nat → Int} : 0 ≤ cpl u ∧ cpl u ≤ 42 := cplA_b 7 0 0 (Int.le_refl _)
theorem couples_l {b : Nat} {u : Nat → Int} {h : yH} (hS : cS b u h) (hp : cSp b h) (hW : tW0 u) : ∀ (m k n : Nat) (a : Int), 7 - k = m → (k : Int) ≤ u 6 → m + 7 ≤ n → 0 ≤ a ∧ a ≤ 6 * k → xl_X10_countCouples n 4 [(b : Int), a, (k : Int)] h = some (cplA u m k a, h) := by
  have w6 := hW.wd.2.2.2.2
  intro m
  induction m with
  | zero => intro k n a e1 e2; omega
  | succ m ih =>
    intro k n a e1 e2 e3 ha
    obtain ⟨n, rfl⟩ : ∃ n', n = n' + 1 := ⟨n - 1, by omega⟩
    have q := nHr_b (u := u) (b := k)
    rw [e_X10_countCouples_4, Int.toNat_natCast, hS.2.2.2.2.2.2.1]
    show _ = some (if (k : Int) < u 6 then cplA u m (k + 1) (a + nHr u k) else a, h)
    by_cases c : (k : Int) < u 6
    · rw [if_pos c, if_pos c, asTold_e (by omega) hS hp hW c, xb_some, bc_e (hrs_b hW), xb_some, show bcn (hrs u k) = nHr u k from rfl, xg_pos (by omega), xg_pos (by omega), show (k : Int) + 1 = ((k + 1 : Nat) : Int) by omega, ih (k + 1) n _ (by omega) (by omega) (by omega) (by omega)]
    · rw [if_neg c, if_neg c]
theorem couples_e {n b : Nat} {u : Nat → Int} {h : yH} (hn : 14 ≤ n) (hS : cS b u h) (hp : cSp b h) (hW : tW0 u) : f_X10_countCouples n [(b : Int)] h = some (cpl u, h) := by
  rw [e_X10_countCouples]
  exact couples_l hS hp hW 7 0 n 0 rfl hW.wd.2.2.2.2.1 hn (by omega)
/-- a sea with the k-th wind -/
def wU (t : Nat → Int) (k : Nat) : Nat → Int := tU (tU t 2 ((k % 4 : Nat) : Int)) 3 ((k / 4 : Nat) : Int)
theorem wU_ne {t : Nat → Int} {k i : Nat} (h : i ≠ 2 ∧ i ≠ 3) : wU t k i = t i := by
  unfold wU
  rw [tU_ne h.2, tU_ne h.1]
theorem wU_2 {t : Nat → Int} {k : Nat} : wU t k 2 = ((k % 4 : Nat) : Int) := by
  unfold wU
  rw [tU_ne (by decide), tU_at]
theorem wU_3 {t : Nat → Int} {k : Nat} : wU t k 3 = ((k / 4 : Nat) : Int) := by
  unfold wU
  rw [tU_at]
theorem wU_W {t : Nat → Int} {k : Nat} (h : tW0 t) (hk : k < 16) : tW0 (wU t k) := by
  obtain ⟨h0, h1, h2, h3, h4, h5, h6, h7, h8, h9, h10⟩ := h
  refine ⟨?_, ?_, ?_, ?_, ?_, ?_, ?_, ?_, fun c hc => ?_, fun s hs => ?_, fun b hb => ?_⟩
  · rw [wU_ne (by omega)]; exact h0
  · rw [wU_ne (by omega)]; exact h1
  · rw [wU_2]; omega
  · rw [wU_3]; omega
  · rw [wU_ne (by omega)]; exact h4
  · rw [wU_ne (by omega)]; exact h5
  · rw [wU_ne (by omega)]; exact h6
  · rw [wU_ne (by omega)]; exact h7
  · rw [wU_ne (by omega), wU_ne (by omega), wU_ne (by omega), wU_ne (by omega)]; exact h8 c hc
  · rw [wU_ne (by omega), wU_ne (by omega), wU_ne (by omega), wU_ne (by omega)]; exact h9 s hs
  · rw [wU_ne (by omega), wU_ne (by omega), wU_ne (by omega)]; exact h10 b hb
def wN (t : Nat → Int) (k : Nat) : Int := cpl (wU t k)
def wS (t : Nat → Int) (r : Nat × Int) (k : Nat) : Nat × Int := if r.2 < wN t k then (k, wN t k) else r
def wFd (t : Nat → Int) : Nat → Nat → Nat × Int → Nat × Int
  | 0, _, r => r
  | m + 1, k, r => wFd t m (k + 1) (wS t r k)
theorem wS_b {t : Nat → Int} {r : Nat × Int} {k : Nat} (hk : k < 16) (hr : r.1 < 16) : (wS t r k).1 < 16 ∧ 0 ≤ (wS t r k).2 ∧ (r.2 ≤ 42 → (wS t r k).2 ≤ 42) := by
  have q : 0 ≤ wN t k ∧ wN t k ≤ 42 := cpl_b
  unfold wS
  by_cases c : r.2 < wN t k
  · rw [if_pos c]
    exact ⟨hk, q.1, fun _ => q.2⟩
  · rw [if_neg c]
    exact ⟨hr, by omega, fun h => h⟩
theorem wFd_b {t : Nat → Int} : ∀ (m k : Nat) (r : Nat × Int), m + k ≤ 16 → r.1 < 16 → 0 ≤ r.2 → (wFd t m k r).1 < 16 ∧ 0 ≤ (wFd t m k r).2 := by
  intro m
  induction m with
  | zero => intro k r _ h1 h2; exact ⟨h1, h2⟩
  | succ m ih =>
    intro k r e h1 h2
    have q := wS_b (t := t) (k := k) (by omega) h1
    exact ih (k + 1) _ (by omega) q.1 q.2.1
def wAll (t : Nat → Int) : Nat × Int := wFd t 12 4 (wS t (0, -1) 0)
theorem wAll_b {t : Nat → Int} : (wAll t).1 < 16 ∧ 0 ≤ (wAll t).2 := by
  have q := wS_b (t := t) (r := (0, -1)) (k := 0) (by decide) (by decide)
  exact wFd_b 12 4 _ (by decide) q.1 q.2.1
/-! the class: a sea of its own with another wind -/
def cSn (t : Nat → Int) (h : yH) : Prop := h 160 0 = t 0 ∧ h 160 1 = t 1 ∧ h 160 4 = t 4 ∧ h 160 6 = t 5 ∧ h 160 10 = t 6 ∧ h 160 14 = t 49 ∧ (∀ i, i < 12 → h 161 i = t (7 + i)) ∧
  (∀ k : Nat, (k : Int) < t 5 → h 162 k = t (19 + 3 * k) ∧ h 163 k = t (20 + 3 * k) ∧ h 164 k = t (21 + 3 * k)) ∧
  (∀ k : Nat, (k : Int) < t 6 → h 165 k = t (31 + 3 * k) ∧ h 166 k = t (32 + 3 * k) ∧ h 167 k = t (33 + 3 * k))
theorem cSn.of {t : Nat → Int} {h : yH} (hS : cS 160 t h) : cSn t h := by
  obtain ⟨a0, a1, a2, a3, a4, a5, a6, a7, a8, a9, a10⟩ := hS
  exact ⟨a0, a1, a4, a5, a6, a7, a8, a9, a10⟩
theorem cSn.at {t : Nat → Int} {h : yH} {k : Nat} (hS : cSn t h) (h2 : h 160 2 = ((k % 4 : Nat) : Int)) (h3 : h 160 3 = ((k / 4 : Nat) : Int)) : cS 160 (wU t k) h := by
  obtain ⟨a0, a1, a4, a5, a6, a7, a8, a9, a10⟩ := hS
  refine ⟨?_, ?_, ?_, ?_, ?_, ?_, ?_, ?_, fun i hi => ?_, fun i hi => ?_, fun i hi => ?_⟩
  · rw [wU_ne (by omega)]; exact a0
  · rw [wU_ne (by omega)]; exact a1
  · rw [wU_2]; exact h2
  · rw [wU_3]; exact h3
  · rw [wU_ne (by omega)]; exact a4
  · rw [wU_ne (by omega)]; exact a5
  · rw [wU_ne (by omega)]; exact a6
  · rw [wU_ne (by omega)]; exact a7
  · rw [wU_ne (by omega)]; exact a8 i hi
  · rw [wU_ne (by omega)] at hi
    rw [wU_ne (by omega), wU_ne (by omega), wU_ne (by omega)]; exact a9 i hi
  · rw [wU_ne (by omega)] at hi
    rw [wU_ne (by omega), wU_ne (by omega), wU_ne (by omega)]; exact a10 i hi
theorem cSn.fr {t : Nat → Int} {h h2 : yH} (hS : cSn t h) (e : ∀ a j, 160 ≤ a → a ≤ 167 → ¬ (a = 160 ∧ (j = 2 ∨ j = 3)) → h2 a j = h a j) : cSn t h2 := by
  obtain ⟨a0, a1, a4, a5, a6, a7, a8, a9, a10⟩ := hS
  refine ⟨?_, ?_, ?_, ?_, ?_, ?_, fun i hi => ?_, fun i hi => ?_, fun i hi => ?_⟩
  · rw [e _ _ (by omega) (by omega) (by omega)]; exact a0
  · rw [e _ _ (by omega) (by omega) (by omega)]; exact a1
  · rw [e _ _ (by omega) (by omega) (by omega)]; exact a4
  · rw [e _ _ (by omega) (by omega) (by omega)]; exact a5
  · rw [e _ _ (by omega) (by omega) (by omega)]; exact a6
  · rw [e _ _ (by omega) (by omega) (by omega)]; exact a7
  · rw [e _ _ (by omega) (by omega) (by omega)]; exact a8 i hi
  · rw [e _ _ (by omega) (by omega) (by omega), e _ _ (by omega) (by omega) (by omega), e _ _ (by omega) (by omega) (by omega)]; exact a9 i hi
  · rw [e _ _ (by omega) (by omega) (by omega), e _ _ (by omega) (by omega) (by omega), e _ _ (by omega) (by omega) (by omega)]; exact a10 i hi
/-- while it looks for the wind: what is best up to now; nothing else is changed -/
def wI (t : Nat → Int) (h0 : yH) (r : Nat × Int) (h : yH) : Prop := h 150 3 = 160 ∧ cSp 160 h ∧ cSn t h ∧ h 150 2 = r.2 ∧ (0 ≤ r.2 → h 150 0 = ((r.1 / 4 : Nat) : Int) ∧ h 150 1 = ((r.1 % 4 : Nat) : Int)) ∧ ∀ a j, a ≠ 150 → ¬ (160 ≤ a ∧ a ≤ 167) → h a j = h0 a j
theorem wind_33 {t : Nat → Int} {h0 : yH} {x1 : Int} {st : Nat} (hW : tW0 t) (hst : st < 4) {sides : Nat} (hsd : sides ≤ 4) : ∀ (m sd n : Nat) (r : Nat × Int) (h : yH), sides = sd + m → m + 16 ≤ n → r.1 < 16 → r.2 ≤ 42 → wI t h0 r h →
    ∃ h2 n2, xl_X10_findWind n 33 [150, x1, (st : Int), (sides : Int), (sd : Int)] h = xl_X10_findWind n2 15 [150, x1, ((st + 1 : Nat) : Int)] h2 ∧ n2 + m + 1 = n ∧ (wFd t m (4 * st + sd) r).1 < 16 ∧ (wFd t m (4 * st + sd) r).2 ≤ 42 ∧ wI t h0 (wFd t m (4 * st + sd) r) h2 := by
  intro m
  induction m with
  | zero =>
    intro sd n r h e1 e2 r1 r2 I
    obtain ⟨n, rfl⟩ : ∃ n', n = n' + 1 := ⟨n - 1, by omega⟩
    refine ⟨h, n, ?_, by omega, r1, r2, I⟩
    rw [e_X10_findWind_33, if_neg (by omega), xg_pos (by omega), show (st : Int) + 1 = ((st + 1 : Nat) : Int) by omega]
  | succ m ih =>
    intro sd n r h e1 e2 r1 r2 I
    obtain ⟨n, rfl⟩ : ∃ n', n = n' + 1 := ⟨n - 1, by omega⟩
    obtain ⟨i1, i2, i3, i4, i5, i6⟩ := I
    have hk : 4 * st + sd < 16 := by omega
    have q := wS_b (t := t) (r := r) (k := 4 * st + sd) hk r1
    have hN : 0 ≤ wN t (4 * st + sd) ∧ wN t (4 * st + sd) ≤ 42 := cpl_b
    obtain ⟨h3, hh3⟩ : ∃ h3, h3 = zup (zup h 160 3 (st : Int)) 160 2 (sd : Int) := ⟨_, rfl⟩
    have fr : ∀ a j, ¬ (a = 160 ∧ (j = 2 ∨ j = 3)) → h3 a j = h a j := fun a j w => by
      rw [hh3, zup_ne (by omega), zup_ne (by omega)]
    have p3 : h3 150 3 = 160 := by rw [fr _ _ (by omega)]; exact i1
    have s3 : cSp 160 h3 := i2.fr (fun j w => fr _ _ (by omega))
    have n3 : cSn t h3 := i3.fr (fun a j _ _ w => fr _ _ w)
    have c3 : cS 160 (wU t (4 * st + sd)) h3 := n3.at (by rw [hh3, zup_at]; omega) (by rw [hh3, zup_ne (by omega), zup_at]; omega)
    have cc : f_X10_countCouples n [160] h3 = some (wN t (4 * st + sd), h3) := couples_e (n := n) (b := 160) (by omega) c3 s3 (wU_W hW hk)
    have key : xl_X10_findWind (n + 1) 33 [150, x1, (st : Int), (sides : Int), (sd : Int)] h = xl_X10_findWind n 33 [150, x1, (st : Int), (sides : Int), ((sd + 1 : Nat) : Int)] (if r.2 < wN t (4 * st + sd) then zup (zup (zup h3 150 2 (wN t (4 * st + sd))) 150 0 (st : Int)) 150 1 (sd : Int) else h3) := by
      rw [e_X10_findWind_33, if_pos (by omega), i1]
      show xg (0 ≤ (sd : Int) ∧ (sd : Int) ≤ 3) (xh (zup (zup h 160 3 (st : Int)) ((zup h 160 3 (st : Int)) 150 3).toNat 2 (sd : Int)) _) = _
      rw [xg_pos (by omega), zup_ne (show ¬ (150 = 160 ∧ 3 = 3) by omega), i1]
      show xb (f_X10_countCouples n [(zup (zup h 160 3 (st : Int)) 160 2 (sd : Int)) 150 3] (zup (zup h 160 3 (st : Int)) 160 2 (sd : Int))) _ = _
      rw [← hh3, p3, cc, xb_some, fr 150 2 (by omega), i4]
      by_cases c : r.2 < wN t (4 * st + sd)
      · rw [if_pos c, if_pos c, xg_pos (by omega), show (sd : Int) + 1 = ((sd + 1 : Nat) : Int) by omega]
      · rw [if_neg c, if_neg c, xg_pos (by omega), show (sd : Int) + 1 = ((sd + 1 : Nat) : Int) by omega]
    by_cases c : r.2 < wN t (4 * st + sd)
    · have eS : wS t r (4 * st + sd) = (4 * st + sd, wN t (4 * st + sd)) := if_pos c
      rw [if_pos c] at key
      obtain ⟨h2, n2, f1, f2, f3, f4, f5⟩ := ih (sd + 1) n (wS t r (4 * st + sd)) (zup (zup (zup h3 150 2 (wN t (4 * st + sd))) 150 0 (st : Int)) 150 1 (sd : Int)) (by omega) (by omega) q.1 (q.2.2 r2) (by
        rw [eS]
        refine ⟨?_, ?_, ?_, ?_, fun _ => ⟨?_, ?_⟩, fun a j w1 w2 => ?_⟩
        · rw [zup_ne (by omega), zup_ne (by omega), zup_ne (by omega)]; exact p3
        · exact s3.fr (fun j w => by rw [zup_ne (by omega), zup_ne (by omega), zup_ne (by omega)])
        · exact n3.fr (fun a j w1 w2 w => by rw [zup_ne (by omega), zup_ne (by omega), zup_ne (by omega)])
        · rw [zup_ne (by omega), zup_ne (by omega), zup_at]
        · rw [zup_ne (by omega), zup_at]
          show (st : Int) = (((4 * st + sd) / 4 : Nat) : Int)
          omega
        · rw [zup_at]
          show (sd : Int) = (((4 * st + sd) % 4 : Nat) : Int)
          omega
        · rw [zup_ne (by omega), zup_ne (by omega), zup_ne (by omega), fr _ _ (by omega)]
          exact i6 a j w1 w2)
      exact ⟨h2, n2, key.trans f1, by omega, f3, f4, f5⟩
    · have eS : wS t r (4 * st + sd) = r := if_neg c
      rw [if_neg c] at key
      obtain ⟨h2, n2, f1, f2, f3, f4, f5⟩ := ih (sd + 1) n (wS t r (4 * st + sd)) h3 (by omega) (by omega) q.1 (q.2.2 r2) (by
        rw [eS]
        exact ⟨p3, s3, n3, by rw [fr _ _ (by omega)]; exact i4, fun w => by rw [fr _ _ (by omega), fr _ _ (by omega)]; exact i5 w, fun a j w1 w2 => by rw [fr _ _ (by omega)]; exact i6 a j w1 w2⟩)
      exact ⟨h2, n2, key.trans f1, by omega, f3, f4, f5⟩
theorem findWind_e {n b : Nat} {t : Nat → Int} {h : yH} (hn : 60 ≤ n) (hw : cPw h) (hb : b + 8 ≤ 160) (hS : cS b t h) (hp : cSp b h) (hW : tW0 t) (hbn : ¬ b = 150) : ∃ h2, f_X10_findWind n [150, (b : Int)] h = some (0, h2) ∧ wI t h (wAll t) h2 := by
  obtain ⟨w1, w2, w3⟩ := hw
  obtain ⟨h1, e1, s1, fr⟩ := copy6 (n := n) (d := 160) (s := b) (by omega) w3 hp hS hW
  rw [e_X10_findWind, w2]
  rw [show ((160 : Nat) : Int) = 160 from rfl] at e1
  rw [e1, xb_some]
  have I0 : wI t h (0, -1) (zup h1 150 2 (-1)) := by
    refine ⟨?_, ?_, ?_, zup_at _ _ _ _, fun q => absurd q (by decide), fun a j v1 v2 => ?_⟩
    · rw [zup_ne (by omega), fr _ _ (by omega)]; exact w2
    · exact w3.fr (fun j w => by rw [zup_ne (by omega), fr _ _ (by omega)])
    · exact (cSn.of s1).fr (fun a j v1 v2 v => zup_ne (by omega))
    · rw [zup_ne (by omega), fr _ _ (by omega)]
  generalize zup h1 150 2 (-1) = h3 at I0
  obtain ⟨n, rfl⟩ : ∃ n', n = n' + 1 := ⟨n - 1, by omega⟩
  obtain ⟨h4, n4, a1, a2, a3, a4, a5⟩ := wind_33 (x1 := (b : Int)) (st := 0) (sides := 1) hW (by decide) (by decide) 1 0 n (0, -1) h3 rfl (by omega) (by decide) (by decide) I0
  obtain ⟨n4, rfl⟩ : ∃ n', n4 = n' + 1 := ⟨n4 - 1, by omega⟩
  obtain ⟨h5, n5, b1, b2, b3, b4, b5⟩ := wind_33 (x1 := (b : Int)) (st := 1) (sides := 4) hW (by decide) (by decide) 4 0 n4 _ h4 rfl (by omega) a3 a4 a5
  obtain ⟨n5, rfl⟩ : ∃ n', n5 = n' + 1 := ⟨n5 - 1, by omega⟩
  obtain ⟨h6, n6, c1, c2, c3, c4, c5⟩ := wind_33 (x1 := (b : Int)) (st := 2) (sides := 4) hW (by decide) (by decide) 4 0 n5 _ h5 rfl (by omega) b3 b4 b5
  obtain ⟨n6, rfl⟩ : ∃ n', n6 = n' + 1 := ⟨n6 - 1, by omega⟩
  obtain ⟨h7, n7, d1, d2, d3, d4, d5⟩ := wind_33 (x1 := (b : Int)) (st := 3) (sides := 4) hW (by decide) (by decide) 4 0 n6 _ h6 rfl (by omega) c3 c4 c5
  obtain ⟨n7, rfl⟩ : ∃ n', n7 = n' + 1 := ⟨n7 - 1, by omega⟩
  refine ⟨h7, ?_, d5⟩
  rw [e_X10_findWind_15, if_neg (by decide), if_pos rfl]
  refine (show _ = xl_X10_findWind n 33 [150, (b : Int), ((0 : Nat) : Int), ((1 : Nat) : Int), ((0 : Nat) : Int)] h3 from rfl).trans ?_
  rw [a1, e_X10_findWind_15, if_neg (by decide), if_neg (by decide)]
  refine (show _ = xl_X10_findWind n4 33 [150, (b : Int), ((1 : Nat) : Int), ((4 : Nat) : Int), ((0 : Nat) : Int)] h4 from rfl).trans ?_
  rw [b1, e_X10_findWind_15, if_neg (by decide), if_neg (by decide)]
  refine (show _ = xl_X10_findWind n5 33 [150, (b : Int), ((2 : Nat) : Int), ((4 : Nat) : Int), ((0 : Nat) : Int)] h5 from rfl).trans ?_
  rw [c1, e_X10_findWind_15, if_neg (by decide), if_neg (by decide)]
  refine (show _ = xl_X10_findWind n6 33 [150, (b : Int), ((3 : Nat) : Int), ((4 : Nat) : Int), ((0 : Nat) : Int)] h6 from rfl).trans ?_
  rw [d1, e_X10_findWind_15, if_pos (by decide)]
