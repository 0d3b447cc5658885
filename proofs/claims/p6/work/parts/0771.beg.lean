/-! the reference: a sea laid as it is told -/
def bgK (a : Nat) : Prop := a = 13 ∨ a = 14 ∨ a = 15 ∨ a = 16 ∨ a = 19 ∨ a = 20
def v13 (t : Nat → Int) (k : Nat) : Int := if (k : Int) < t 5 then t (19 + 3 * k) else 0
def v14 (t : Nat → Int) (k : Nat) : Int := if (k : Int) < t 5 then t (20 + 3 * k) else 0
def v15 (t : Nat → Int) (k : Nat) : Int := if (k : Int) < t 5 then t (21 + 3 * k) else 4
theorem beg_s {s k n : Nat} {t : Nat → Int} {g : yH} (H : sH s t g) (h35 : g 35 35 = t 5) (h5 : 0 ≤ t 5 ∧ t 5 ≤ 4) (hk : k < 6) : xl_X12_begin (n + 1) 15 [35, (k : Int)] g = xl_X12_begin n 15 [35, ((k + 1 : Nat) : Int)] (zup (zup (zup (zup (zup (zup g 13 k (v13 t k)) 14 k (v14 t k)) 15 k (v15 t k)) 20 k (-1)) 19 k 0) 16 k (-1)) := by
  have p : ∀ (j : Nat) (kk : Int) (gg : yH), sH s t gg → (j, kk) ∈ rQL → gg 35 j = kk := fun j kk gg HH hm => HH.2.2.2.p hm
  have H1 : sH s t (zup g 13 k (v13 t k)) := H.fr (fun a j w => zup_ne (by omega))
  have H2 : sH s t (zup (zup g 13 k (v13 t k)) 14 k (v14 t k)) := H1.fr (fun a j w => zup_ne (by omega))
  have H3 : sH s t (zup (zup (zup g 13 k (v13 t k)) 14 k (v14 t k)) 15 k (v15 t k)) := H2.fr (fun a j w => zup_ne (by omega))
  have H4 : sH s t (zup (zup (zup (zup g 13 k (v13 t k)) 14 k (v14 t k)) 15 k (v15 t k)) 20 k (-1)) := H3.fr (fun a j w => zup_ne (by omega))
  have H5 : sH s t (zup (zup (zup (zup (zup g 13 k (v13 t k)) 14 k (v14 t k)) 15 k (v15 t k)) 20 k (-1)) 19 k 0) := H4.fr (fun a j w => zup_ne (by omega))
  rw [e_X12_begin_15, if_pos (by omega), h35]
  by_cases c : (k : Int) < t 5
  · have e13 : v13 t k = t (19 + 3 * k) := if_pos c
    have e14 : v14 t k = t (20 + 3 * k) := if_pos c
    have e15 : v15 t k = t (21 + 3 * k) := if_pos c
    rw [if_pos c, e_X12_begin_34, xg_pos (p 36 13 _ H (by decide)), if_neg (by decide), xg_pos (by omega), xg_pos (by omega), of_e H (k := 19 + 3 * k) (by omega) (by omega), xb_some, ← e13]
    rw [e_X12_begin_58, xg_pos (by omega), xg_pos (p 37 14 _ H (by decide)), if_neg (by decide), xg_pos (by omega), xg_pos (by omega), xg_pos (by omega), Int.toNat_natCast, of_e H1 (k := 20 + 3 * k) (by omega) (by omega), xb_some, ← e14]
    rw [e_X12_begin_84, xg_pos (by omega), xg_pos (p 38 15 _ H1 (by decide)), if_neg (by decide), xg_pos (by omega), xg_pos (by omega), xg_pos (by omega), Int.toNat_natCast, of_e H2 (k := 21 + 3 * k) (by omega) (by omega), xb_some, ← e15]
    rw [e_X12_begin_110, xg_pos (by omega), xg_pos (p 39 20 _ H2 (by decide)), xg_pos (by omega), xg_pos (p 40 19 _ H2 (by decide)), xg_pos (by omega), xg_pos (p 41 16 _ H2 (by decide)), xg_pos (by omega), xg_pos (by omega), Int.toNat_natCast, show (k : Int) + 1 = ((k + 1 : Nat) : Int) by omega]
  · have e13 : v13 t k = 0 := if_neg c
    have e14 : v14 t k = 0 := if_neg c
    have e15 : v15 t k = 4 := if_neg c
    simp only [e13, e14, e15] at H1 H2 H3 H4 H5 ⊢
    rw [if_neg c, e_X12_begin_34, xg_pos (p 36 13 _ H (by decide)), if_pos rfl]
    rw [e_X12_begin_58, xg_pos (by omega), xg_pos (p 37 14 _ H (by decide)), if_pos rfl, Int.toNat_natCast]
    rw [e_X12_begin_84, xg_pos (by omega), xg_pos (p 38 15 _ H1 (by decide)), if_pos rfl, Int.toNat_natCast]
    rw [e_X12_begin_110, xg_pos (by omega), xg_pos (p 39 20 _ H2 (by decide)), xg_pos (by omega), xg_pos (p 40 19 _ H2 (by decide)), xg_pos (by omega), xg_pos (p 41 16 _ H2 (by decide)), xg_pos (by omega), xg_pos (by omega), Int.toNat_natCast, show (k : Int) + 1 = ((k + 1 : Nat) : Int) by omega]
/-- the shoals as they lie -/
def shV (t : Nat → Int) (i : Nat) (g : yH) : Prop := g 13 i = v13 t i ∧ g 14 i = v14 t i ∧ g 15 i = v15 t i ∧ g 20 i = -1 ∧ g 19 i = 0 ∧ g 16 i = -1
theorem beg_15 {s : Nat} {t : Nat → Int} (h5 : 0 ≤ t 5 ∧ t 5 ≤ 4) : ∀ (m k n : Nat) (g : yH), k + m = 6 → m + 1 ≤ n → sH s t g → g 35 35 = t 5 → (∀ i, i < k → shV t i g) →
    ∃ g2 n2, n2 + m + 1 = n ∧ xl_X12_begin n 15 [35, (k : Int)] g = xl_X12_begin n2 140 [35, ((0 : Nat) : Int)] g2 ∧ (∀ a j, ¬ bgK a → g2 a j = g a j) ∧ ∀ i, i < 6 → shV t i g2 := by
  intro m
  induction m with
  | zero =>
    intro k n g e1 e2 H h35 hs
    obtain ⟨n, rfl⟩ : ∃ n', n = n' + 1 := ⟨n - 1, by omega⟩
    refine ⟨g, n, rfl, ?_, fun _ _ _ => rfl, fun i hi => hs i (by omega)⟩
    rw [e_X12_begin_15, if_neg (by omega)]
    rfl
  | succ m ih =>
    intro k n g e1 e2 H h35 hs
    obtain ⟨n, rfl⟩ : ∃ n', n = n' + 1 := ⟨n - 1, by omega⟩
    have key := beg_s (n := n) H h35 h5 (k := k) (by omega)
    have fr : ∀ a j, ¬ (bgK a ∧ j = k) → (zup (zup (zup (zup (zup (zup g 13 k (v13 t k)) 14 k (v14 t k)) 15 k (v15 t k)) 20 k (-1)) 19 k 0) 16 k (-1)) a j = g a j := fun a j w => by
      unfold bgK at w
      rw [zup_ne (by omega), zup_ne (by omega), zup_ne (by omega), zup_ne (by omega), zup_ne (by omega), zup_ne (by omega)]
    have hv2 : shV t k (zup (zup (zup (zup (zup (zup g 13 k (v13 t k)) 14 k (v14 t k)) 15 k (v15 t k)) 20 k (-1)) 19 k 0) 16 k (-1)) := by
      refine ⟨?_, ?_, ?_, ?_, ?_, ?_⟩ <;> simp [zup]
    generalize zup (zup (zup (zup (zup (zup g 13 k (v13 t k)) 14 k (v14 t k)) 15 k (v15 t k)) 20 k (-1)) 19 k 0) 16 k (-1) = g1 at key fr hv2
    have n35 : ¬ bgK 35 := by unfold bgK; omega
    have n5 : ¬ bgK 5 := by unfold bgK; omega
    obtain ⟨g2, n2, f1, f2, f3, f4⟩ := ih (k + 1) n g1 (by omega) (by omega) (H.fr (fun a j w => fr a j (fun q => by
      rcases w with w | w
      · rw [w] at q; exact n5 q.1
      · rw [w.1] at q; exact n35 q.1))) (by rw [fr _ _ (fun q => n35 q.1)]; exact h35) (fun i hi => by
      by_cases w : i = k
      · rw [w]; exact hv2
      · obtain ⟨x1, x2, x3, x4, x5, x6⟩ := hs i (by omega)
        refine ⟨?_, ?_, ?_, ?_, ?_, ?_⟩
        · rw [fr _ _ (fun q => w q.2)]; exact x1
        · rw [fr _ _ (fun q => w q.2)]; exact x2
        · rw [fr _ _ (fun q => w q.2)]; exact x3
        · rw [fr _ _ (fun q => w q.2)]; exact x4
        · rw [fr _ _ (fun q => w q.2)]; exact x5
        · rw [fr _ _ (fun q => w q.2)]; exact x6)
    exact ⟨g2, n2, by omega, key.trans f2, fun a j w => (f3 a j w).trans (fr a j (fun q => w q.1)), f4⟩
/-- the boats as they lie -/
theorem beg_140 {s : Nat} {t : Nat → Int} (hW : tW0 t) : ∀ (m k n : Nat) (g : yH), 7 - k = m → (k : Int) ≤ t 6 → m ≤ n → sH s t g → g 35 28 = t 6 → (∀ i : Nat, i < k → g 10 i = t (31 + 3 * i) ∧ g 17 i = 0 ∧ g 18 i = 0) →
    ∃ g2, xl_X12_begin n 140 [35, (k : Int)] g = some (0, g2) ∧ (∀ a j, ¬ (a = 10 ∨ a = 17 ∨ a = 18) → ¬ (a = 35 ∧ j = 49) → g2 a j = g a j) ∧ g2 35 49 = 0 ∧ ∀ i : Nat, (i : Int) < t 6 → g2 10 i = t (31 + 3 * i) ∧ g2 17 i = 0 ∧ g2 18 i = 0 := by
  have w6 := hW.wd.2.2.2.2
  intro m
  induction m with
  | zero => intro k n g e1 e2; omega
  | succ m ih =>
    intro k n g e1 e2 e3 H h28 hs
    obtain ⟨n, rfl⟩ : ∃ n', n = n' + 1 := ⟨n - 1, by omega⟩
    have p : ∀ (j : Nat) (kk : Int), (j, kk) ∈ rQL → g 35 j = kk := fun j kk hm => H.2.2.2.p hm
    rw [e_X12_begin_140, h28]
    by_cases c : (k : Int) < t 6
    · have wb := hW.bt (b := k) (by omega)
      rw [if_pos c, xg_pos (p 30 10 (by decide)), xg_pos (by omega), xg_pos (by omega), of_e H (k := 31 + 3 * k) (by omega) (by omega), xb_some, xg_pos (by omega), xg_pos wb.1, xg_pos (p 42 17 (by decide)), xg_pos (by omega), xg_pos (p 43 18 (by decide)), xg_pos (by omega), xg_pos (by omega), Int.toNat_natCast, show (k : Int) + 1 = ((k + 1 : Nat) : Int) by omega]
      have fr : ∀ a j, ¬ ((a = 10 ∨ a = 17 ∨ a = 18) ∧ j = k) → (zup (zup (zup g 10 k (t (31 + 3 * k))) 17 k 0) 18 k 0) a j = g a j := fun a j w => by
        rw [zup_ne (by omega), zup_ne (by omega), zup_ne (by omega)]
      have hk3 : (zup (zup (zup g 10 k (t (31 + 3 * k))) 17 k 0) 18 k 0) 10 k = t (31 + 3 * k) ∧ (zup (zup (zup g 10 k (t (31 + 3 * k))) 17 k 0) 18 k 0) 17 k = 0 ∧ (zup (zup (zup g 10 k (t (31 + 3 * k))) 17 k 0) 18 k 0) 18 k = 0 := by
        refine ⟨?_, ?_, ?_⟩ <;> simp [zup]
      generalize zup (zup (zup g 10 k (t (31 + 3 * k))) 17 k 0) 18 k 0 = g1 at fr hk3
      obtain ⟨g2, f1, f2, f3, f4⟩ := ih (k + 1) n g1 (by omega) (by omega) (by omega) (H.fr (fun a j w => fr a j (by omega))) (by rw [fr _ _ (by omega)]; exact h28) (fun i hi => by
        by_cases w : i = k
        · rw [w]; exact hk3
        · rw [fr _ _ (by omega), fr _ _ (by omega), fr _ _ (by omega)]
          exact hs i (by omega))
      exact ⟨g2, f1, fun a j w1 w2 => (f2 a j w1 w2).trans (fr a j (by omega)), f3, f4⟩
    · rw [if_neg c]
      refine ⟨_, rfl, fun a j w1 w2 => zup_ne w2, zup_at _ _ _ _, fun i hi => ?_⟩
      rw [zup_ne (by omega), zup_ne (by omega), zup_ne (by omega)]
      exact hs i (by omega)
/-- what begin leaves -/
def bgR (s : Nat) (t : Nat → Int) (g g2 : yH) : Prop := hv s t t g2 ∧ g2 35 34 = 0 ∧ g2 35 35 = t 5 ∧ g2 35 49 = 0 ∧ (∀ i, i < 6 → shV t i g2) ∧ (∀ i : Nat, (i : Int) < t 6 → g2 17 i = 0 ∧ g2 18 i = 0) ∧ ∀ a j, ¬ (bgK a ∨ a = 10 ∨ a = 17 ∨ a = 18) → ¬ (a = 35 ∧ (j = 34 ∨ j = 35 ∨ j = 49)) → g2 a j = g a j
theorem begR_e {n s : Nat} {t : Nat → Int} {g : yH} (hn : 20 ≤ n) (hW : tW0 t) (H : hv s t t g) (h29 : g 35 29 = t 5) : ∃ g2, f_X12_begin n [35] g = some (0, g2) ∧ bgR s t g g2 := by
  have w5 : 0 ≤ t 5 ∧ t 5 ≤ 4 := hW.2.2.2.2.2.1
  obtain ⟨k1, k2, k3, k4, k5, k6, k7, k8⟩ := id H
  rw [e_X12_begin, h29, xg_pos (by omega)]
  have frA : ∀ a j, ¬ (a = 35 ∧ (j = 34 ∨ j = 35)) → (zup (zup g 35 34 0) 35 35 (t 5)) a j = g a j := fun a j w => by
    rw [zup_ne (by omega), zup_ne (by omega)]
  have a34 : (zup (zup g 35 34 0) 35 35 (t 5)) 35 34 = 0 := by rw [zup_ne (by omega), zup_at]
  have a35 : (zup (zup g 35 34 0) 35 35 (t 5)) 35 35 = t 5 := zup_at _ _ _ _
  have HA : sH s t (zup (zup g 35 34 0) 35 35 (t 5)) := k1.fr (fun a j w => frA a j (fun c => by
    rcases w with w | ⟨-, w | w⟩
    · omega
    · omega
    · have : ∀ j ∈ rQs, ¬ (j = 34 ∨ j = 35) := by decide
      exact this j w c.2))
  generalize zup (zup g 35 34 0) 35 35 (t 5) = gA at frA a34 a35 HA
  obtain ⟨g1, n1, b1, b2, b3, b4⟩ := beg_15 w5 6 0 n gA rfl (by omega) HA a35 (fun i hi => absurd hi (by omega))
  have n35 : ¬ bgK 35 := by unfold bgK; omega
  have n5 : ¬ bgK 5 := by unfold bgK; omega
  have n10 : ¬ bgK 10 := by unfold bgK; omega
  have n11 : ¬ bgK 11 := by unfold bgK; omega
  have HB : sH s t g1 := HA.fr (fun a j w => b3 a j (by
    rcases w with w | w
    · rw [w]; exact n5
    · rw [w.1]; exact n35))
  obtain ⟨g2, c1, c2, c3, c4⟩ := beg_140 hW 7 0 n1 g1 rfl hW.wd.2.2.2.2.1 (by omega) HB (by rw [b3 _ _ n35, frA _ _ (by omega)]; exact k7) (fun i hi => absurd hi (by omega))
  have frAll : ∀ a j, ¬ (bgK a ∨ a = 10 ∨ a = 17 ∨ a = 18) → ¬ (a = 35 ∧ (j = 34 ∨ j = 35 ∨ j = 49)) → g2 a j = g a j := fun a j w1 w2 => by
    rw [c2 a j (fun q => w1 (Or.inr q)) (fun q => w2 ⟨q.1, by omega⟩), b3 a j (fun q => w1 (Or.inl q)), frA a j (fun q => w2 ⟨q.1, by omega⟩)]
  have m35 : ∀ j, j ≠ 34 → j ≠ 35 → j ≠ 49 → g2 35 j = g 35 j := fun j j1 j2 j3 => frAll 35 j (fun q => by
    rcases q with q | q
    · exact n35 q
    · omega) (by omega)
  have HC : sH s t g2 := HB.fr (fun a j w => c2 a j (by omega) (fun q => by
    rcases w with w | ⟨-, w | w⟩
    · omega
    · omega
    · have : ∀ j ∈ rQs, j ≠ 49 := by decide
      exact this j w q.2))
  refine ⟨g2, ?_, ⟨HC, rfl, by rw [m35 _ (by omega) (by omega) (by omega)]; exact k3, by rw [m35 _ (by omega) (by omega) (by omega)]; exact k4, by rw [m35 _ (by omega) (by omega) (by omega)]; exact k5, by rw [m35 _ (by omega) (by omega) (by omega)]; exact k6, by rw [m35 _ (by omega) (by omega) (by omega)]; exact k7, fun i hi => ⟨(c4 i hi).1, ?_⟩⟩, ?_, ?_, c3, fun i hi => ?_, fun i hi => (c4 i hi).2, frAll⟩
  · refine (show _ = xl_X12_begin n 15 [35, ((0 : Nat) : Int)] gA from rfl).trans (b2.trans c1)
  · rw [frAll 11 i (fun q => by
      rcases q with q | q
      · exact n11 q
      · omega) (by omega)]
    exact (k8 i hi).2
  · rw [c2 _ _ (by omega) (by omega), b3 _ _ n35]; exact a34
  · rw [c2 _ _ (by omega) (by omega), b3 _ _ n35]; exact a35
  · obtain ⟨x1, x2, x3, x4, x5, x6⟩ := b4 i hi
    exact ⟨by rw [c2 _ _ (by omega) (by omega)]; exact x1, by rw [c2 _ _ (by omega) (by omega)]; exact x2, by rw [c2 _ _ (by omega) (by omega)]; exact x3, by rw [c2 _ _ (by omega) (by omega)]; exact x4, by rw [c2 _ _ (by omega) (by omega)]; exact x5, by rw [c2 _ _ (by omega) (by omega)]; exact x6⟩
