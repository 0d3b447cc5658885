/-! the reference: a text is kept -/
def sb (of i : Nat) : Int × Int :=
  if of = 0 then (if i ≤ 1 then (0, 8) else if i = 4 then (0, 9) else if i = 5 then (0, 4) else if i = 6 then (0, 6) else if i = 7 ∨ i = 11 ∨ i = 15 then (0, 99) else if 31 ≤ i ∧ i < 49 then (if (i - 31) % 3 = 0 then (0, 63) else if (i - 31) % 3 = 2 then (0, 2) else (-1, 99)) else (-1, 99))
  else if of = 1 then (if i = 0 then (0, 30) else (-1, 99)) else (if i = 0 then (0, 9) else if i = 1 then (0, 16) else if i < 20 then (-1, 99) else (0, 8))
theorem sb_5 : ∀ k : Fin 8, ∀ i : Fin 50, (zty (zkdm.getD 5 (0, 0, 0, [])) (50 * k.val + i.val)).2.1 ≤ (sb 0 i.val).1 ∧ (sb 0 i.val).2 ≤ (zty (zkdm.getD 5 (0, 0, 0, [])) (50 * k.val + i.val)).2.2 := by decide +kernel
theorem sb_6 : ∀ k : Fin 8, ∀ i : Fin 121, (zty (zkdm.getD 6 (0, 0, 0, [])) (121 * k.val + i.val)).2.1 ≤ (sb 1 i.val).1 ∧ (sb 1 i.val).2 ≤ (zty (zkdm.getD 6 (0, 0, 0, [])) (121 * k.val + i.val)).2.2 := by decide +kernel
theorem sb_7 : ∀ k : Fin 8, ∀ i : Fin 52, (zty (zkdm.getD 7 (0, 0, 0, [])) (52 * k.val + i.val)).2.1 ≤ (sb 2 i.val).1 ∧ (sb 2 i.val).2 ≤ (zty (zkdm.getD 7 (0, 0, 0, [])) (52 * k.val + i.val)).2.2 := by decide +kernel
theorem sb_W0 {t : Nat → Int} (h : tW0 t) {i : Nat} (hi : i < 50) : (sb 0 i).1 ≤ t i ∧ t i ≤ (sb 0 i).2 := by
  obtain ⟨h0, h1, h2, h3, h4, h5, h6, h49, hc, hs, hb⟩ := h
  unfold sb
  rw [if_pos rfl]
  by_cases c1 : i ≤ 1
  · rw [if_pos c1]
    rcases (show i = 0 ∨ i = 1 by omega) with rfl | rfl
    · simp only; omega
    · simp only; omega
  · rw [if_neg c1]
    by_cases c4 : i = 4
    · subst c4; simp only [if_true]; omega
    · rw [if_neg c4]
      by_cases c5 : i = 5
      · subst c5; simp only [if_true]; omega
      · rw [if_neg c5]
        by_cases c6 : i = 6
        · subst c6; simp only [if_true]; omega
        · rw [if_neg c6]
          by_cases cc : 7 ≤ i ∧ i < 19
          · obtain ⟨g1, g2, g3, g4⟩ := hc ((i - 7) / 4) (by omega)
            have hr : i = 7 + 4 * ((i - 7) / 4) ∨ i = 8 + 4 * ((i - 7) / 4) ∨ i = 9 + 4 * ((i - 7) / 4) ∨ i = 10 + 4 * ((i - 7) / 4) := by omega
            have hv : 0 ≤ t i ∧ t i ≤ 30 := by
              rcases hr with e | e | e | e
              · rw [← e] at g1; omega
              · rw [← e] at g2; omega
              · rw [← e] at g3; omega
              · rw [← e] at g4; omega
            split
            · simp only; omega
            · rw [if_neg (by omega)]; simp only; omega
          · rw [if_neg (by omega)]
            by_cases cb : 31 ≤ i ∧ i < 49
            · rw [if_pos cb]
              obtain ⟨g1, g2, g3⟩ := hb ((i - 31) / 3) (by omega)
              rcases (show i = 31 + 3 * ((i - 31) / 3) ∨ i = 32 + 3 * ((i - 31) / 3) ∨ i = 33 + 3 * ((i - 31) / 3) by omega) with e | e | e
              · rw [if_pos (by omega)]
                rw [← e] at g1
                exact g1
              · rw [if_neg (by omega), if_neg (by omega)]
                rw [← e] at g2
                simp only; omega
              · rw [if_neg (by omega), if_pos (by omega)]
                rw [← e] at g3
                exact g3
            · rw [if_neg cb]
              by_cases cs : 19 ≤ i ∧ i < 31
              · obtain ⟨g1, g2, g3⟩ := hs ((i - 19) / 3) (by omega)
                rcases (show i = 19 + 3 * ((i - 19) / 3) ∨ i = 20 + 3 * ((i - 19) / 3) ∨ i = 21 + 3 * ((i - 19) / 3) by omega) with e | e | e
                · rw [← e] at g1; simp only; omega
                · rw [← e] at g2; simp only; omega
                · rw [← e] at g3; simp only; omega
              · rcases (show i = 2 ∨ i = 3 ∨ i = 49 by omega) with rfl | rfl | rfl
                · simp only; omega
                · simp only; omega
                · simp only; omega
theorem sb_W1 {t : Nat → Int} (h : tW1 t) {i : Nat} (hi : i < 121) : (sb 1 i).1 ≤ t i ∧ t i ≤ (sb 1 i).2 := by
  obtain ⟨h0, hk⟩ := h
  unfold sb
  rw [if_neg (by decide), if_pos rfl]
  by_cases c0 : i = 0
  · subst c0; simp only [if_true]; omega
  · rw [if_neg c0]
    obtain ⟨g1, g2⟩ := hk ((i - 1) / 4) (by omega)
    have hv : (-1 ≤ t (1 + 4 * ((i - 1) / 4)) ∧ t (1 + 4 * ((i - 1) / 4)) ≤ 99) ∧ (-1 ≤ t (2 + 4 * ((i - 1) / 4)) ∧ t (2 + 4 * ((i - 1) / 4)) ≤ 99) ∧ (-1 ≤ t (3 + 4 * ((i - 1) / 4)) ∧ t (3 + 4 * ((i - 1) / 4)) ≤ 99) ∧ -1 ≤ t (4 + 4 * ((i - 1) / 4)) ∧ t (4 + 4 * ((i - 1) / 4)) ≤ 99 := by
      by_cases w : (((i - 1) / 4 : Nat) : Int) < t 0
      · have := g1 w
        unfold tWd at this
        omega
      · obtain ⟨a1, a2, a3, a4⟩ := g2 (by omega)
        omega
    simp only
    rcases (show i = 1 + 4 * ((i - 1) / 4) ∨ i = 2 + 4 * ((i - 1) / 4) ∨ i = 3 + 4 * ((i - 1) / 4) ∨ i = 4 + 4 * ((i - 1) / 4) by omega) with e | e | e | e
    · rw [← e] at hv; exact hv.1
    · have := hv.2.1; rw [← e] at this; exact this
    · have := hv.2.2.1; rw [← e] at this; exact this
    · have := hv.2.2.2; rw [← e] at this; exact this
theorem sb_W2 {t : Nat → Int} (h : tW2 t) {i : Nat} (hi : i < 52) : (sb 2 i).1 ≤ t i ∧ t i ≤ (sb 2 i).2 := by
  obtain ⟨h0, h1, hk, hm⟩ := h
  unfold sb
  rw [if_neg (by decide), if_neg (by decide)]
  by_cases c0 : i = 0
  · subst c0; simp only [if_true]; omega
  · rw [if_neg c0]
    by_cases c1 : i = 1
    · subst c1; simp only [if_true]; omega
    · rw [if_neg c1]
      by_cases c2 : i < 20
      · rw [if_pos c2]
        obtain ⟨g1, g2, -⟩ := hk ((i - 2) / 2) (by omega)
        rcases (show i = 2 + 2 * ((i - 2) / 2) ∨ i = 3 + 2 * ((i - 2) / 2) by omega) with e | e
        · rw [← e] at g1; simp only; omega
        · rw [← e] at g2; simp only; omega
      · rw [if_neg c2]
        obtain ⟨g1, g2, -⟩ := hm ((i - 20) / 2) (by omega)
        rcases (show i = 20 + 2 * ((i - 20) / 2) ∨ i = 21 + 2 * ((i - 20) / 2) by omega) with e | e
        · rw [← e] at g1; exact g1
        · rw [← e] at g2; exact g2
theorem store5_l {h : yH} {k : Nat} (hp : rP h) (hk : k < 2) (hW : tW0 (h 8)) : ∀ (m i n : Nat) (g : yH), 50 - i = m → i ≤ 50 → m < n → (∀ a j, g a j = if a = 5 ∧ 50 * k ≤ j ∧ j < 50 * k + i then h 8 (j - 50 * k) else h a j) →
    ∃ h2, xl_X12_store_5 n 3 [35, 5, 50, (k : Int), (i : Int)] g = some (0, h2) ∧ ∀ a j, h2 a j = if a = 5 ∧ 50 * k ≤ j ∧ j < 50 * k + 50 then h 8 (j - 50 * k) else h a j := by
  have p18 : h 35 18 = 8 := hp.2.2.2.2.2.2.2.2.1
  intro m
  induction m with
  | zero =>
    intro i n g e1 e2 e3 hg
    obtain ⟨n, rfl⟩ : ∃ n', n = n' + 1 := ⟨n - 1, by omega⟩
    have : i = 50 := by omega
    subst this
    rw [e_X12_store_5_3, if_neg (by decide)]
    exact ⟨g, rfl, hg⟩
  | succ m ih =>
    intro i n g e1 e2 e3 hg
    obtain ⟨n, rfl⟩ : ∃ n', n = n' + 1 := ⟨n - 1, by omega⟩
    have g18 : g 35 18 = 8 := by rw [hg, if_neg (by omega)]; exact p18
    have gi : g 8 i = h 8 i := by rw [hg, if_neg (by omega)]
    have b1 := sb_5 ⟨k, by omega⟩ ⟨i, by omega⟩
    simp only at b1
    have b2 := sb_W0 hW (i := i) (by omega)
    rw [e_X12_store_5_3, if_pos (by omega), xg_pos (by omega), xg_pos (by omega), xg_pos g18, xg_pos (by omega), xg_pos (by omega), Int.toNat_natCast, gi, show (50 * (k : Int) + (i : Int)).toNat = 50 * k + i by omega, xg_pos (by omega), xg_pos (by omega)]
    refine ih (i + 1) n _ (by omega) (by omega) (by omega) (fun a j => ?_)
    by_cases w : a = 5 ∧ j = 50 * k + i
    · rw [w.1, w.2, zup_at, if_pos (by omega), show 50 * k + i - 50 * k = i by omega]
    · rw [zup_ne w, hg]
      by_cases w2 : a = 5 ∧ 50 * k ≤ j ∧ j < 50 * k + i
      · rw [if_pos w2, if_pos (by omega)]
      · rw [if_neg w2, if_neg (by omega)]
theorem store5_e {n : Nat} {h : yH} {k : Nat} (hn : 200 ≤ n) (hp : rP h) (hk : k < 2) (hW : tW0 (h 8)) : ∃ h2, f_X12_store_5 n [35, 5, 50, (k : Int)] h = some (0, h2) ∧ ∀ a j, h2 a j = if a = 5 ∧ 50 * k ≤ j ∧ j < 50 * k + 50 then h 8 (j - 50 * k) else h a j := by
  rw [e_X12_store_5]
  exact store5_l hp hk hW 50 0 n h rfl (by decide) (by omega) (fun a j => by rw [if_neg (by omega)])
theorem store6_l {h : yH} {k : Nat} (hp : rP h) (hk : k < 2) (hW : tW1 (h 8)) : ∀ (m i n : Nat) (g : yH), 121 - i = m → i ≤ 121 → m < n → (∀ a j, g a j = if a = 6 ∧ 121 * k ≤ j ∧ j < 121 * k + i then h 8 (j - 121 * k) else h a j) →
    ∃ h2, xl_X12_store_6 n 3 [35, 6, 121, (k : Int), (i : Int)] g = some (0, h2) ∧ ∀ a j, h2 a j = if a = 6 ∧ 121 * k ≤ j ∧ j < 121 * k + 121 then h 8 (j - 121 * k) else h a j := by
  have p18 : h 35 18 = 8 := hp.2.2.2.2.2.2.2.2.1
  intro m
  induction m with
  | zero =>
    intro i n g e1 e2 e3 hg
    obtain ⟨n, rfl⟩ : ∃ n', n = n' + 1 := ⟨n - 1, by omega⟩
    have : i = 121 := by omega
    subst this
    rw [e_X12_store_6_3, if_neg (by decide)]
    exact ⟨g, rfl, hg⟩
  | succ m ih =>
    intro i n g e1 e2 e3 hg
    obtain ⟨n, rfl⟩ : ∃ n', n = n' + 1 := ⟨n - 1, by omega⟩
    have g18 : g 35 18 = 8 := by rw [hg, if_neg (by omega)]; exact p18
    have gi : g 8 i = h 8 i := by rw [hg, if_neg (by omega)]
    have b1 := sb_6 ⟨k, by omega⟩ ⟨i, by omega⟩
    simp only at b1
    have b2 := sb_W1 hW (i := i) (by omega)
    rw [e_X12_store_6_3, if_pos (by omega), xg_pos (by omega), xg_pos (by omega), xg_pos g18, xg_pos (by omega), xg_pos (by omega), Int.toNat_natCast, gi, show (121 * (k : Int) + (i : Int)).toNat = 121 * k + i by omega, xg_pos (by omega), xg_pos (by omega)]
    refine ih (i + 1) n _ (by omega) (by omega) (by omega) (fun a j => ?_)
    by_cases w : a = 6 ∧ j = 121 * k + i
    · rw [w.1, w.2, zup_at, if_pos (by omega), show 121 * k + i - 121 * k = i by omega]
    · rw [zup_ne w, hg]
      by_cases w2 : a = 6 ∧ 121 * k ≤ j ∧ j < 121 * k + i
      · rw [if_pos w2, if_pos (by omega)]
      · rw [if_neg w2, if_neg (by omega)]
theorem store6_e {n : Nat} {h : yH} {k : Nat} (hn : 200 ≤ n) (hp : rP h) (hk : k < 2) (hW : tW1 (h 8)) : ∃ h2, f_X12_store_6 n [35, 6, 121, (k : Int)] h = some (0, h2) ∧ ∀ a j, h2 a j = if a = 6 ∧ 121 * k ≤ j ∧ j < 121 * k + 121 then h 8 (j - 121 * k) else h a j := by
  rw [e_X12_store_6]
  exact store6_l hp hk hW 121 0 n h rfl (by decide) (by omega) (fun a j => by rw [if_neg (by omega)])
theorem store7_l {h : yH} {k : Nat} (hp : rP h) (hk : k < 2) (hW : tW2 (h 8)) : ∀ (m i n : Nat) (g : yH), 52 - i = m → i ≤ 52 → m < n → (∀ a j, g a j = if a = 7 ∧ 52 * k ≤ j ∧ j < 52 * k + i then h 8 (j - 52 * k) else h a j) →
    ∃ h2, xl_X12_store_7 n 3 [35, 7, 52, (k : Int), (i : Int)] g = some (0, h2) ∧ ∀ a j, h2 a j = if a = 7 ∧ 52 * k ≤ j ∧ j < 52 * k + 52 then h 8 (j - 52 * k) else h a j := by
  have p18 : h 35 18 = 8 := hp.2.2.2.2.2.2.2.2.1
  intro m
  induction m with
  | zero =>
    intro i n g e1 e2 e3 hg
    obtain ⟨n, rfl⟩ : ∃ n', n = n' + 1 := ⟨n - 1, by omega⟩
    have : i = 52 := by omega
    subst this
    rw [e_X12_store_7_3, if_neg (by decide)]
    exact ⟨g, rfl, hg⟩
  | succ m ih =>
    intro i n g e1 e2 e3 hg
    obtain ⟨n, rfl⟩ : ∃ n', n = n' + 1 := ⟨n - 1, by omega⟩
    have g18 : g 35 18 = 8 := by rw [hg, if_neg (by omega)]; exact p18
    have gi : g 8 i = h 8 i := by rw [hg, if_neg (by omega)]
    have b1 := sb_7 ⟨k, by omega⟩ ⟨i, by omega⟩
    simp only at b1
    have b2 := sb_W2 hW (i := i) (by omega)
    rw [e_X12_store_7_3, if_pos (by omega), xg_pos (by omega), xg_pos (by omega), xg_pos g18, xg_pos (by omega), xg_pos (by omega), Int.toNat_natCast, gi, show (52 * (k : Int) + (i : Int)).toNat = 52 * k + i by omega, xg_pos (by omega), xg_pos (by omega)]
    refine ih (i + 1) n _ (by omega) (by omega) (by omega) (fun a j => ?_)
    by_cases w : a = 7 ∧ j = 52 * k + i
    · rw [w.1, w.2, zup_at, if_pos (by omega), show 52 * k + i - 52 * k = i by omega]
    · rw [zup_ne w, hg]
      by_cases w2 : a = 7 ∧ 52 * k ≤ j ∧ j < 52 * k + i
      · rw [if_pos w2, if_pos (by omega)]
      · rw [if_neg w2, if_neg (by omega)]
theorem store7_e {n : Nat} {h : yH} {k : Nat} (hn : 200 ≤ n) (hp : rP h) (hk : k < 2) (hW : tW2 (h 8)) : ∃ h2, f_X12_store_7 n [35, 7, 52, (k : Int)] h = some (0, h2) ∧ ∀ a j, h2 a j = if a = 7 ∧ 52 * k ≤ j ∧ j < 52 * k + 52 then h 8 (j - 52 * k) else h a j := by
  rw [e_X12_store_7]
  exact store7_l hp hk hW 52 0 n h rfl (by decide) (by omega) (fun a j => by rw [if_neg (by omega)])
/-! text() -/
theorem is_e {n : Nat} {h : yH} {s k : Int} (p5 : h 35 5 = 4) (hs : 0 ≤ s ∧ s < 12) (hm : 0 ≤ h 4 s.toNat ∧ h 4 s.toNat ≤ 2) : f_X12_is n [35, s, k] h = some (if 0 ≤ k ∧ k < h 4 s.toNat then 1 else 0, h) := by
  rw [e_X12_is, xg_pos p5, xg_pos hs, xg_pos (by omega)]
  by_cases hk : 0 ≤ k ∧ k < h 4 s.toNat
  · rw [in_t (by omega), xb_some, xg_pos (by decide), if_pos hk]
  · rw [in_f (by omega), xb_some, xg_pos (by decide), if_neg hk]
/-- where a text comes: -2 if nowhere -/
def txK (m : Nat → Int) (sort at_ : Int) : Int := if 0 ≤ sort ∧ sort ≤ 2 then (if at_ = -1 then (if m sort.toNat = 2 then -2 else m sort.toNat) else if 0 ≤ at_ ∧ at_ < m sort.toNat then at_ else -2) else -2
/-- what text() leaves where there is a place: the arrays of what is told -/
def txS (of k : Nat) (t : Nat → Int) (h : yH) (a j : Nat) : Int :=
  if a = 4 ∧ j = of then (if h 4 of = (k : Int) then h 4 of + 1 else h 4 of)
  else if of = 0 ∧ a = 5 ∧ 50 * k ≤ j ∧ j < 50 * k + 50 then t (j - 50 * k)
  else if of = 1 ∧ a = 6 ∧ 121 * k ≤ j ∧ j < 121 * k + 121 then t (j - 121 * k)
  else if of = 2 ∧ a = 7 ∧ 52 * k ≤ j ∧ j < 52 * k + 52 then t (j - 52 * k)
  else h a j
/-- what text() leaves -/
def txR (sort at_ : Int) (h : yH) (R : (Int × Int) × (Nat → Int)) (v : Int) (h2 : yH) : Prop :=
  rP h2 ∧ h2 1 0 = 0 ∧ (∀ j, j ≠ 0 → h2 1 j = h 1 j) ∧ (∀ j, j ≠ 0 → h2 2 j = h 2 j) ∧ (∀ j, j ≠ 0 → h2 3 j = h 3 j) ∧ (∀ j, h2 0 j = h 0 j) ∧ (∀ j, h2 34 j = h 34 j) ∧
  ((txK (h 4) sort at_ = -2 ∧ v = -2 ∧ h2 2 0 = 0 ∧ h2 3 0 = -1 ∧ ∀ a j, 4 ≤ a ∧ a ≤ 7 → h2 a j = h a j) ∨
   (txK (h 4) sort at_ ≠ -2 ∧ h2 2 0 = R.1.1 ∧ h2 3 0 = R.1.2 ∧ ((R.1.1 ≠ 0 ∧ v = -1 ∧ ∀ a j, 4 ≤ a ∧ a ≤ 7 → h2 a j = h a j) ∨ (R.1.1 = 0 ∧ v = txK (h 4) sort at_ ∧ tWf sort.toNat R.2 ∧ ∀ a j, 4 ≤ a ∧ a ≤ 7 → h2 a j = txS sort.toNat (txK (h 4) sort at_).toNat R.2 h a j))))
set_option maxHeartbeats 1000000 in
theorem text_e {n : Nat} {h : yH} {sort at_ : Int} (hn : 2600 ≤ n) (hp : rP h) (h10 : 0 ≤ h 1 0 ∧ h 1 0 ≤ 600) (hm : ∀ j, j < 12 → 0 ≤ h 4 j ∧ h 4 j ≤ 2) :
    ∃ t0 v h2, (∀ j, j < 121 → t0 j = tI sort.toNat j) ∧ f_X12_text n [35, sort, at_] h = some (v, h2) ∧ txR sort at_ h (pRd (uR h) (h 1 0).toNat sort.toNat 700 0 (0, -1) t0 (-1) (-1)) v h2 := by
  obtain ⟨p1, p2, p3, p4, p5, p6, p7, p8, p18, p19⟩ := hp
  have hp : rP h := ⟨p1, p2, p3, p4, p5, p6, p7, p8, p18, p19⟩
  rw [e_X12_text, xg_pos p2, xg_pos h10, xg_pos p2, xg_pos p3, xg_pos p4]
  generalize hg : zup (zup (zup (zup (zup h 35 0 0) 35 10 (h 1 0)) 1 0 0) 2 0 0) 3 0 (-1) = g
  have gn : ∀ a j, ¬ (a = 35 ∧ (j = 0 ∨ j = 10)) → ¬ ((a = 1 ∨ a = 2 ∨ a = 3) ∧ j = 0) → g a j = h a j := fun a j w1 w2 => by rw [← hg, zup_ne (by omega), zup_ne (by omega), zup_ne (by omega), zup_ne (by omega), zup_ne (by omega)]
  have g3 : g 3 0 = -1 := by rw [← hg, zup_at]
  have g2 : g 2 0 = 0 := by rw [← hg, zup_ne (by omega), zup_at]
  have g1 : g 1 0 = 0 := by rw [← hg, zup_ne (by omega), zup_ne (by omega), zup_at]
  have g10 : g 35 10 = h 1 0 := by rw [← hg, zup_ne (by omega), zup_ne (by omega), zup_ne (by omega), zup_at]
  have gp : rP g := hp.fr (fun j hj => gn 35 j (by omega) (by omega))
  have none : txK (h 4) sort at_ = -2 → ∀ R, txR sort at_ h R (-2) g := fun w R => ⟨gp, g1, fun j hj => gn 1 j (by omega) (by omega), fun j hj => gn 2 j (by omega) (by omega), fun j hj => gn 3 j (by omega) (by omega), fun j => gn 0 j (by omega) (by omega), fun j => gn 34 j (by omega) (by omega), Or.inl ⟨w, rfl, g2, g3, fun a j w => gn a j (by omega) (by omega)⟩⟩
  have dflt : ∃ t0 : Nat → Int, ∀ j, j < 121 → t0 j = tI sort.toNat j := ⟨fun j => tI sort.toNat j, fun j _ => rfl⟩
  obtain ⟨d0, hd0⟩ := dflt
  by_cases hs : 0 ≤ sort ∧ sort ≤ 2
  · obtain ⟨of, rfl⟩ : ∃ of : Nat, sort = (of : Int) := ⟨sort.toNat, by omega⟩
    rw [Int.toNat_natCast] at hd0 ⊢
    have hof : of ≤ 2 := by omega
    have mof := hm of (by omega)
    have e4 : g 4 of = h 4 of := gn 4 of (by omega) (by omega)
    rw [in_t hs, xb_some, if_neg (by decide)]
    -- a text is read
    have rd : txK (h 4) (of : Int) at_ ≠ -2 → ∃ t0 v h2, (∀ j, j < 121 → t0 j = tI of j) ∧ xq_X12_text_75 n [35, (of : Int), at_] g = some (v, h2) ∧ txR (of : Int) at_ h (pRd (uR h) (h 1 0).toNat of 700 0 (0, -1) t0 (-1) (-1)) v h2 := by
      intro hk
      have hc : rC (uR h) (h 1 0).toNat g := ⟨by
        funext i
        unfold uR
        rw [gn 0 i (by omega) (by omega)], by rw [g10]; omega, by omega, gp⟩
      obtain ⟨t0, v, g5, y0, y1, y2⟩ := readText_e (n := n) hof (by omega) hc
      refine ⟨t0, ?_⟩
      generalize pRd (uR h) (h 1 0).toNat of 700 0 (0, -1) t0 (-1) (-1) = R at y2 ⊢
      obtain ⟨a1, a2, a3, a4, a5, a6⟩ := y2
      have f0 : ∀ j, g5 0 j = h 0 j := fun j => by rw [a6 0 j (by omega) (by omega) (by omega), gn 0 j (by omega) (by omega)]
      have f34 : ∀ j, g5 34 j = h 34 j := fun j => by rw [a6 34 j (by omega) (by omega) (by omega), gn 34 j (by omega) (by omega)]
      have f10 : g5 1 0 = 0 := by rw [a6 1 0 (by omega) (by omega) (by omega)]; exact g1
      have f1 : ∀ j, j ≠ 0 → g5 1 j = h 1 j := fun j w => by rw [a6 1 j (by omega) (by omega) (by omega), gn 1 j (by omega) (by omega)]
      have f2 : ∀ j, j ≠ 0 → g5 2 j = h 2 j := fun j w => by rw [a6 2 j (by omega) (by omega) (by omega), gn 2 j (by omega) (by omega)]
      have f3 : ∀ j, j ≠ 0 → g5 3 j = h 3 j := fun j w => by rw [a6 3 j (by omega) (by omega) (by omega), gn 3 j (by omega) (by omega)]
      have f4 : ∀ a j, 4 ≤ a ∧ a ≤ 7 → g5 a j = h a j := fun a j w => by rw [a6 a j (by omega) (by omega) (by omega), gn a j (by omega) (by omega)]
      have q5 : g5 35 5 = 4 := a5.2.2.2.2.1
      have q6 : g5 35 6 = 5 := a5.2.2.2.2.2.1
      have q7 : g5 35 7 = 6 := a5.2.2.2.2.2.2.1
      have q8 : g5 35 8 = 7 := a5.2.2.2.2.2.2.2.1
      rw [e_X12_text_75, y1, xb_some]
      by_cases hz : R.1.1 = 0
      · rw [if_pos hz] at a3
        obtain ⟨r8, rW⟩ := a4 hz
        rw [a3, if_neg (by decide), Int.toNat_natCast, f4 4 of (by omega)]
        -- behind the place and the count
        have fin : ∀ (k : Nat) (d : Int), txK (h 4) (of : Int) at_ = (k : Int) → k < 2 → (d = if h 4 of = (k : Int) then 1 else 0) → ∃ v h2, (∀ j, j < 121 → t0 j = tI of j) ∧ xq_X12_text_118 n [35, (of : Int), at_, (k : Int), d, h 4 of, (of : Int), 4] g5 = some (v, h2) ∧ txR (of : Int) at_ h R v h2 := by
          intro k d hkk hk2 hd
          have hb : 0 ≤ h 4 of + d ∧ h 4 of + d ≤ 2 := by
            rw [hd]
            split
            · omega
            · omega
          rw [e_X12_text_118, xg_pos (by omega), xg_pos (by omega), xg_pos hb, Int.toNat_natCast]
          generalize hg6 : zup g5 4 of (h 4 of + d) = g6
          have n6 : ∀ a j, ¬ (a = 4 ∧ j = of) → g6 a j = g5 a j := fun a j w => by rw [← hg6, zup_ne w]
          have p6' : rP g6 := a5.fr (fun j hj => n6 35 j (by omega))
          have e68 : g6 8 = R.2 := by
            rw [← r8]
            funext j
            exact n6 8 j (by omega)
          have e46 : g6 4 of = h 4 of + d := by rw [← hg6, zup_at]
          have post : ∀ h2 : yH, (∀ a j, ¬ (a = 5 + of) → h2 a j = g6 a j) → (∀ a j, 4 ≤ a ∧ a ≤ 7 → h2 a j = txS of k R.2 h a j) → txR (of : Int) at_ h R (k : Int) h2 := by
            intro h2 w1 w2
            refine ⟨p6'.fr (fun j hj => w1 35 j (by omega)), by rw [w1 1 0 (by omega), n6 1 0 (by omega)]; exact f10, fun j hj => by rw [w1 1 j (by omega), n6 1 j (by omega)]; exact f1 j hj, fun j hj => by rw [w1 2 j (by omega), n6 2 j (by omega)]; exact f2 j hj, fun j hj => by rw [w1 3 j (by omega), n6 3 j (by omega)]; exact f3 j hj, fun j => by rw [w1 0 j (by omega), n6 0 j (by omega)]; exact f0 j, fun j => by rw [w1 34 j (by omega), n6 34 j (by omega)]; exact f34 j, Or.inr ⟨by rw [hkk]; omega, by rw [w1 2 0 (by omega), n6 2 0 (by omega)]; exact a1, by rw [w1 3 0 (by omega), n6 3 0 (by omega)]; exact a2, Or.inr ⟨hz, hkk.symm, by rw [Int.toNat_natCast]; exact rW, ?_⟩⟩⟩
            rw [hkk, Int.toNat_natCast, Int.toNat_natCast]
            exact w2
          have other : ∀ a j, 4 ≤ a ∧ a ≤ 7 → a ≠ 5 + of → g6 a j = txS of k R.2 h a j := by
            intro a j w1 w2
            unfold txS
            by_cases w3 : a = 4 ∧ j = of
            · rw [if_pos w3, w3.1, w3.2, e46, hd]
              split
              · rfl
              · omega
            · rw [if_neg w3, if_neg (by omega), if_neg (by omega), if_neg (by omega), n6 a j w3]
              exact f4 a j w1
          rcases (show of = 0 ∨ of = 1 ∨ of = 2 by omega) with rfl | rfl | rfl
          · obtain ⟨h2, s0, s1⟩ := store5_e (n := n) (h := g6) (k := k) (by omega) p6' hk2 (by rw [e68]; exact rW.1 rfl)
            have s0 : f_X12_store_5 n [35, 5, 50, (k : Int)] g6 = some (0, h2) := s0
            rw [if_pos (by decide), xg_pos q6, s0, xb_some]
            refine ⟨k, h2, y0, rfl, post h2 (fun a j w => by rw [s1, if_neg (by omega)]) (fun a j w => ?_)⟩
            by_cases w2 : a = 5
            · subst w2
              rw [s1]
              by_cases w3 : 50 * k ≤ j ∧ j < 50 * k + 50
              · rw [if_pos ⟨rfl, w3⟩, e68]
                unfold txS
                rw [if_neg (by omega), if_pos (by omega)]
              · rw [if_neg (fun w4 => w3 w4.2), n6 _ _ (by omega), f4 _ _ (by omega)]
                unfold txS
                rw [if_neg (by omega), if_neg (by omega), if_neg (by omega), if_neg (by omega)]
            · rw [s1, if_neg (by omega)]
              exact other a j w w2
          · obtain ⟨h2, s0, s1⟩ := store6_e (n := n) (h := g6) (k := k) (by omega) p6' hk2 (by rw [e68]; exact rW.2.1 rfl)
            have s0 : f_X12_store_6 n [35, 6, 121, (k : Int)] g6 = some (0, h2) := s0
            rw [if_neg (by decide), if_pos (by decide), xg_pos q7, s0, xb_some]
            refine ⟨k, h2, y0, rfl, post h2 (fun a j w => by rw [s1, if_neg (by omega)]) (fun a j w => ?_)⟩
            by_cases w2 : a = 6
            · subst w2
              rw [s1]
              by_cases w3 : 121 * k ≤ j ∧ j < 121 * k + 121
              · rw [if_pos ⟨rfl, w3⟩, e68]
                unfold txS
                rw [if_neg (by omega), if_neg (by omega), if_pos (by omega)]
              · rw [if_neg (fun w4 => w3 w4.2), n6 _ _ (by omega), f4 _ _ (by omega)]
                unfold txS
                rw [if_neg (by omega), if_neg (by omega), if_neg (by omega), if_neg (by omega)]
            · rw [s1, if_neg (by omega)]
              exact other a j w w2
          · obtain ⟨h2, s0, s1⟩ := store7_e (n := n) (h := g6) (k := k) (by omega) p6' hk2 (by rw [e68]; exact rW.2.2 rfl)
            have s0 : f_X12_store_7 n [35, 7, 52, (k : Int)] g6 = some (0, h2) := s0
            rw [if_neg (by decide), if_neg (by decide), xg_pos q8, s0, xb_some]
            refine ⟨k, h2, y0, rfl, post h2 (fun a j w => by rw [s1, if_neg (by omega)]) (fun a j w => ?_)⟩
            by_cases w2 : a = 7
            · subst w2
              rw [s1]
              by_cases w3 : 52 * k ≤ j ∧ j < 52 * k + 52
              · rw [if_pos ⟨rfl, w3⟩, e68]
                unfold txS
                rw [if_neg (by omega), if_neg (by omega), if_neg (by omega), if_pos (by omega)]
              · rw [if_neg (fun w4 => w3 w4.2), n6 _ _ (by omega), f4 _ _ (by omega)]
                unfold txS
                rw [if_neg (by omega), if_neg (by omega), if_neg (by omega), if_neg (by omega)]
            · rw [s1, if_neg (by omega)]
              exact other a j w w2
        by_cases hat : at_ = -1
        · have hkk : txK (h 4) (of : Int) at_ = h 4 of := by
            unfold txK at hk ⊢
            rw [if_pos hs, Int.toNat_natCast, if_pos hat] at hk ⊢
            split at hk
            · exact absurd rfl hk
            · rename_i w
              rw [if_neg w]
          have hk2 : h 4 of < 2 := by
            unfold txK at hk
            rw [if_pos hs, Int.toNat_natCast, if_pos hat] at hk
            split at hk
            · exact absurd rfl hk
            · omega
          obtain ⟨k, ek⟩ : ∃ k : Nat, h 4 of = (k : Int) := ⟨(h 4 of).toNat, by omega⟩
          obtain ⟨v, h2, z0, z1, z2⟩ := fin k 1 (by rw [hkk, ek]) (by omega) (by rw [if_pos ek])
          refine ⟨v, h2, z0, ?_, z2⟩
          rw [if_pos hat, xg_pos q5, xg_pos (by omega), xg_pos q5, xg_pos (by omega), if_pos hat]
          rw [← ek] at z1
          exact z1
        · have hkr : 0 ≤ at_ ∧ at_ < h 4 of := by
            unfold txK at hk
            rw [if_pos hs, Int.toNat_natCast, if_neg hat] at hk
            split at hk
            · rename_i w
              exact w
            · exact absurd rfl hk
          obtain ⟨k, ek⟩ : ∃ k : Nat, at_ = (k : Int) := ⟨at_.toNat, by omega⟩
          have hkk : txK (h 4) (of : Int) at_ = (k : Int) := by
            unfold txK
            rw [if_pos hs, Int.toNat_natCast, if_neg hat, if_pos hkr]
            exact ek
          obtain ⟨v, h2, z0, z1, z2⟩ := fin k 0 hkk (by omega) (by rw [if_neg (by omega)])
          refine ⟨v, h2, z0, ?_, z2⟩
          rw [if_neg hat, xg_pos q5, xg_pos (by omega), if_neg hat]
          rw [← ek] at z1
          exact z1
      · rw [if_neg hz] at a3
        rw [a3, if_pos rfl]
        exact ⟨-1, g5, y0, rfl, a5, f10, f1, f2, f3, f0, f34, Or.inr ⟨hk, a1, a2, Or.inl ⟨hz, rfl, f4⟩⟩⟩
    by_cases hat : at_ = -1
    · rw [if_pos hat, xg_pos gp.2.2.2.2.1, xg_pos (by omega), e4]
      by_cases h2 : h 4 of = 2
      · rw [if_pos h2]
        exact ⟨d0, -2, g, hd0, rfl, none (by unfold txK; rw [if_pos hs, Int.toNat_natCast, if_pos hat, if_pos h2]) _⟩
      · rw [if_neg h2]
        exact rd (by unfold txK; rw [if_pos hs, Int.toNat_natCast, if_pos hat, if_neg h2]; omega)
    · rw [if_neg hat, is_e gp.2.2.2.2.1 (by omega) (by rw [Int.toNat_natCast, e4]; exact mof), xb_some, Int.toNat_natCast, e4]
      by_cases h2 : 0 ≤ at_ ∧ at_ < h 4 of
      · rw [if_pos h2, if_neg (by decide)]
        exact rd (by unfold txK; rw [if_pos hs, Int.toNat_natCast, if_neg hat, if_pos h2]; omega)
      · rw [if_neg h2, if_pos rfl]
        exact ⟨d0, -2, g, hd0, rfl, none (by unfold txK; rw [if_pos hs, Int.toNat_natCast, if_neg hat, if_neg h2]) _⟩
  · rw [in_f hs, xb_some, if_pos rfl]
    exact ⟨d0, -2, g, hd0, rfl, none (by unfold txK; rw [if_neg hs]) _⟩
