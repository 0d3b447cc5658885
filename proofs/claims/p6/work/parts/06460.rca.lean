/-! the reference: told over -/
/-- the cells' numbers within their bounds -/
def rBd (h : yH) : Prop := ∀ a, a ≤ 7 → ∀ j, j < (zkdm.getD a (0, 0, 0, [])).2.2.1 → (zty (zkdm.getD a (0, 0, 0, [])) j).2.1 ≤ h a j ∧ h a j ≤ (zty (zkdm.getD a (0, 0, 0, [])) j).2.2
theorem zpr_5 : ∀ f : Fin 4, ∀ t : Fin 4, ∀ i : Fin 100, zty (zkdm.getD 5 (0, 0, 0, [])) (100 * f.val + i.val) = zty (zkdm.getD 5 (0, 0, 0, [])) (100 * t.val + i.val) := by decide +kernel
theorem zpr_6 : ∀ f : Fin 4, ∀ t : Fin 4, ∀ i : Fin 242, zty (zkdm.getD 6 (0, 0, 0, [])) (242 * f.val + i.val) = zty (zkdm.getD 6 (0, 0, 0, [])) (242 * t.val + i.val) := by decide +kernel
theorem zpr_7 : ∀ f : Fin 4, ∀ t : Fin 4, ∀ i : Fin 104, zty (zkdm.getD 7 (0, 0, 0, [])) (104 * f.val + i.val) = zty (zkdm.getD 7 (0, 0, 0, [])) (104 * t.val + i.val) := by decide +kernel
theorem zty_r1 : ∀ i : Fin 4, zty (zkdm.getD 1 (0, 0, 0, [])) i.val = (0, 0, 600) := by decide +kernel
theorem zty_r4 : ∀ i : Fin 12, zty (zkdm.getD 4 (0, 0, 0, [])) i.val = (0, 0, 2) := by decide +kernel
theorem zty_r0 (j : Nat) : zty (zkdm.getD 0 (0, 0, 0, [])) j = (0, -128, 127) := by
  unfold zty
  rw [show (zkdm.getD 0 (0, 0, 0, [])).2.2.2 = [(0, -128, 127)] from rfl]
  simp [Nat.mod_one]
theorem crow_1_l {h : yH} {f t : Nat} (hf : f < 4) (ht : t < 4) (hft : f ≠ t) (hb : ∀ j, j < 4 → (zty (zkdm.getD 1 (0, 0, 0, [])) j).2.1 ≤ h 1 j ∧ h 1 j ≤ (zty (zkdm.getD 1 (0, 0, 0, [])) j).2.2) : ∀ (m i n : Nat) (g : yH), 1 - i = m → i ≤ 1 → m < n → (∀ a j, g a j = if a = 1 ∧ 1 * t ≤ j ∧ j < 1 * t + i then h 1 (j - 1 * t + 1 * f) else h a j) →
    yR (xl_X12_copyRow_1 n 3 [1, 1, (f : Int), (t : Int), (i : Int)] g) (fun _ h2 => ∀ a j, h2 a j = if a = 1 ∧ 1 * t ≤ j ∧ j < 1 * t + 1 then h 1 (j - 1 * t + 1 * f) else h a j) := by
  intro m
  induction m with
  | zero =>
    intro i n g e1 e2 e3 hg
    obtain ⟨n, rfl⟩ : ∃ n', n = n' + 1 := ⟨n - 1, by omega⟩
    have : i = 1 := by omega
    subst this
    rw [e_X12_copyRow_1_3, if_neg (by decide)]
    exact yR.s hg
  | succ m ih =>
    intro i n g e1 e2 e3 hg
    obtain ⟨n, rfl⟩ : ∃ n', n = n' + 1 := ⟨n - 1, by omega⟩
    have gi : g 1 (1 * f + i) = h 1 (1 * f + i) := by rw [hg, if_neg (by omega)]
    have b := hb (1 * f + i) (show 1 * f + i < 4 by omega)
    rw [zty_r1 ⟨1 * f + i, by omega⟩] at b
    simp only at b
    rw [e_X12_copyRow_1_3, if_pos (by omega), xg_pos (by omega), xg_pos (by omega), xg_pos (by omega), xg_pos (by omega), xg_pos (by omega), xg_pos (by omega), show ((1 : Int) * (f : Int) + (i : Int)).toNat = 1 * f + i by omega, show ((1 : Int) * (t : Int) + (i : Int)).toNat = 1 * t + i by omega, gi, xg_pos b, xg_pos (by omega)]
    refine ih (i + 1) n _ (by omega) (by omega) (by omega) (fun a j => ?_)
    by_cases w : a = 1 ∧ j = 1 * t + i
    · rw [w.1, w.2, zup_at, if_pos (by omega), show 1 * t + i - 1 * t + 1 * f = 1 * f + i by omega]
    · rw [zup_ne w, hg]
      by_cases w2 : a = 1 ∧ 1 * t ≤ j ∧ j < 1 * t + i
      · rw [if_pos w2, if_pos (by omega)]
      · rw [if_neg w2, if_neg (by omega)]
theorem crow_1 {n : Nat} {h : yH} {f t : Nat} (hn : 300 ≤ n) (hf : f < 4) (ht : t < 4) (hft : f ≠ t) (hb : ∀ j, j < 4 → (zty (zkdm.getD 1 (0, 0, 0, [])) j).2.1 ≤ h 1 j ∧ h 1 j ≤ (zty (zkdm.getD 1 (0, 0, 0, [])) j).2.2) : yR (f_X12_copyRow_1 n [1, 1, (f : Int), (t : Int)] h) (fun _ h2 => ∀ a j, h2 a j = if a = 1 ∧ 1 * t ≤ j ∧ j < 1 * t + 1 then h 1 (j - 1 * t + 1 * f) else h a j) := by
  rw [e_X12_copyRow_1]
  exact crow_1_l hf ht hft hb 1 0 n h rfl (by decide) (by omega) (fun a j => by rw [if_neg (by omega)])
theorem crow_2_l {h : yH} {f t : Nat} (hf : f < 4) (ht : t < 4) (hft : f ≠ t) : ∀ (m i n : Nat) (g : yH), 1 - i = m → i ≤ 1 → m < n → (∀ a j, g a j = if a = 2 ∧ 1 * t ≤ j ∧ j < 1 * t + i then h 2 (j - 1 * t + 1 * f) else h a j) →
    yR (xl_X12_copyRow_2 n 3 [2, 1, (f : Int), (t : Int), (i : Int)] g) (fun _ h2 => ∀ a j, h2 a j = if a = 2 ∧ 1 * t ≤ j ∧ j < 1 * t + 1 then h 2 (j - 1 * t + 1 * f) else h a j) := by
  intro m
  induction m with
  | zero =>
    intro i n g e1 e2 e3 hg
    obtain ⟨n, rfl⟩ : ∃ n', n = n' + 1 := ⟨n - 1, by omega⟩
    have : i = 1 := by omega
    subst this
    rw [e_X12_copyRow_2_3, if_neg (by decide)]
    exact yR.s hg
  | succ m ih =>
    intro i n g e1 e2 e3 hg
    obtain ⟨n, rfl⟩ : ∃ n', n = n' + 1 := ⟨n - 1, by omega⟩
    have gi : g 2 (1 * f + i) = h 2 (1 * f + i) := by rw [hg, if_neg (by omega)]
    rw [e_X12_copyRow_2_3, if_pos (by omega), xg_pos (by omega), xg_pos (by omega), xg_pos (by omega), xg_pos (by omega), xg_pos (by omega), xg_pos (by omega), show ((1 : Int) * (f : Int) + (i : Int)).toNat = 1 * f + i by omega, show ((1 : Int) * (t : Int) + (i : Int)).toNat = 1 * t + i by omega, gi, xg_pos (by omega)]
    refine ih (i + 1) n _ (by omega) (by omega) (by omega) (fun a j => ?_)
    by_cases w : a = 2 ∧ j = 1 * t + i
    · rw [w.1, w.2, zup_at, if_pos (by omega), show 1 * t + i - 1 * t + 1 * f = 1 * f + i by omega]
    · rw [zup_ne w, hg]
      by_cases w2 : a = 2 ∧ 1 * t ≤ j ∧ j < 1 * t + i
      · rw [if_pos w2, if_pos (by omega)]
      · rw [if_neg w2, if_neg (by omega)]
theorem crow_2 {n : Nat} {h : yH} {f t : Nat} (hn : 300 ≤ n) (hf : f < 4) (ht : t < 4) (hft : f ≠ t) : yR (f_X12_copyRow_2 n [2, 1, (f : Int), (t : Int)] h) (fun _ h2 => ∀ a j, h2 a j = if a = 2 ∧ 1 * t ≤ j ∧ j < 1 * t + 1 then h 2 (j - 1 * t + 1 * f) else h a j) := by
  rw [e_X12_copyRow_2]
  exact crow_2_l hf ht hft 1 0 n h rfl (by decide) (by omega) (fun a j => by rw [if_neg (by omega)])
theorem crow_3_l {h : yH} {f t : Nat} (hf : f < 4) (ht : t < 4) (hft : f ≠ t) : ∀ (m i n : Nat) (g : yH), 1 - i = m → i ≤ 1 → m < n → (∀ a j, g a j = if a = 3 ∧ 1 * t ≤ j ∧ j < 1 * t + i then h 3 (j - 1 * t + 1 * f) else h a j) →
    yR (xl_X12_copyRow_3 n 3 [3, 1, (f : Int), (t : Int), (i : Int)] g) (fun _ h2 => ∀ a j, h2 a j = if a = 3 ∧ 1 * t ≤ j ∧ j < 1 * t + 1 then h 3 (j - 1 * t + 1 * f) else h a j) := by
  intro m
  induction m with
  | zero =>
    intro i n g e1 e2 e3 hg
    obtain ⟨n, rfl⟩ : ∃ n', n = n' + 1 := ⟨n - 1, by omega⟩
    have : i = 1 := by omega
    subst this
    rw [e_X12_copyRow_3_3, if_neg (by decide)]
    exact yR.s hg
  | succ m ih =>
    intro i n g e1 e2 e3 hg
    obtain ⟨n, rfl⟩ : ∃ n', n = n' + 1 := ⟨n - 1, by omega⟩
    have gi : g 3 (1 * f + i) = h 3 (1 * f + i) := by rw [hg, if_neg (by omega)]
    rw [e_X12_copyRow_3_3, if_pos (by omega), xg_pos (by omega), xg_pos (by omega), xg_pos (by omega), xg_pos (by omega), xg_pos (by omega), xg_pos (by omega), show ((1 : Int) * (f : Int) + (i : Int)).toNat = 1 * f + i by omega, show ((1 : Int) * (t : Int) + (i : Int)).toNat = 1 * t + i by omega, gi, xg_pos (by omega)]
    refine ih (i + 1) n _ (by omega) (by omega) (by omega) (fun a j => ?_)
    by_cases w : a = 3 ∧ j = 1 * t + i
    · rw [w.1, w.2, zup_at, if_pos (by omega), show 1 * t + i - 1 * t + 1 * f = 1 * f + i by omega]
    · rw [zup_ne w, hg]
      by_cases w2 : a = 3 ∧ 1 * t ≤ j ∧ j < 1 * t + i
      · rw [if_pos w2, if_pos (by omega)]
      · rw [if_neg w2, if_neg (by omega)]
theorem crow_3 {n : Nat} {h : yH} {f t : Nat} (hn : 300 ≤ n) (hf : f < 4) (ht : t < 4) (hft : f ≠ t) : yR (f_X12_copyRow_3 n [3, 1, (f : Int), (t : Int)] h) (fun _ h2 => ∀ a j, h2 a j = if a = 3 ∧ 1 * t ≤ j ∧ j < 1 * t + 1 then h 3 (j - 1 * t + 1 * f) else h a j) := by
  rw [e_X12_copyRow_3]
  exact crow_3_l hf ht hft 1 0 n h rfl (by decide) (by omega) (fun a j => by rw [if_neg (by omega)])
theorem crow_4_l {h : yH} {f t : Nat} (hf : f < 4) (ht : t < 4) (hft : f ≠ t) (hb : ∀ j, j < 12 → (zty (zkdm.getD 4 (0, 0, 0, [])) j).2.1 ≤ h 4 j ∧ h 4 j ≤ (zty (zkdm.getD 4 (0, 0, 0, [])) j).2.2) : ∀ (m i n : Nat) (g : yH), 3 - i = m → i ≤ 3 → m < n → (∀ a j, g a j = if a = 4 ∧ 3 * t ≤ j ∧ j < 3 * t + i then h 4 (j - 3 * t + 3 * f) else h a j) →
    yR (xl_X12_copyRow_4 n 3 [4, 3, (f : Int), (t : Int), (i : Int)] g) (fun _ h2 => ∀ a j, h2 a j = if a = 4 ∧ 3 * t ≤ j ∧ j < 3 * t + 3 then h 4 (j - 3 * t + 3 * f) else h a j) := by
  intro m
  induction m with
  | zero =>
    intro i n g e1 e2 e3 hg
    obtain ⟨n, rfl⟩ : ∃ n', n = n' + 1 := ⟨n - 1, by omega⟩
    have : i = 3 := by omega
    subst this
    rw [e_X12_copyRow_4_3, if_neg (by decide)]
    exact yR.s hg
  | succ m ih =>
    intro i n g e1 e2 e3 hg
    obtain ⟨n, rfl⟩ : ∃ n', n = n' + 1 := ⟨n - 1, by omega⟩
    have gi : g 4 (3 * f + i) = h 4 (3 * f + i) := by rw [hg, if_neg (by omega)]
    have b := hb (3 * f + i) (show 3 * f + i < 12 by omega)
    rw [zty_r4 ⟨3 * f + i, by omega⟩] at b
    simp only at b
    rw [e_X12_copyRow_4_3, if_pos (by omega), xg_pos (by omega), xg_pos (by omega), xg_pos (by omega), xg_pos (by omega), xg_pos (by omega), xg_pos (by omega), show ((3 : Int) * (f : Int) + (i : Int)).toNat = 3 * f + i by omega, show ((3 : Int) * (t : Int) + (i : Int)).toNat = 3 * t + i by omega, gi, xg_pos b, xg_pos (by omega)]
    refine ih (i + 1) n _ (by omega) (by omega) (by omega) (fun a j => ?_)
    by_cases w : a = 4 ∧ j = 3 * t + i
    · rw [w.1, w.2, zup_at, if_pos (by omega), show 3 * t + i - 3 * t + 3 * f = 3 * f + i by omega]
    · rw [zup_ne w, hg]
      by_cases w2 : a = 4 ∧ 3 * t ≤ j ∧ j < 3 * t + i
      · rw [if_pos w2, if_pos (by omega)]
      · rw [if_neg w2, if_neg (by omega)]
theorem crow_4 {n : Nat} {h : yH} {f t : Nat} (hn : 300 ≤ n) (hf : f < 4) (ht : t < 4) (hft : f ≠ t) (hb : ∀ j, j < 12 → (zty (zkdm.getD 4 (0, 0, 0, [])) j).2.1 ≤ h 4 j ∧ h 4 j ≤ (zty (zkdm.getD 4 (0, 0, 0, [])) j).2.2) : yR (f_X12_copyRow_4 n [4, 3, (f : Int), (t : Int)] h) (fun _ h2 => ∀ a j, h2 a j = if a = 4 ∧ 3 * t ≤ j ∧ j < 3 * t + 3 then h 4 (j - 3 * t + 3 * f) else h a j) := by
  rw [e_X12_copyRow_4]
  exact crow_4_l hf ht hft hb 3 0 n h rfl (by decide) (by omega) (fun a j => by rw [if_neg (by omega)])
theorem crow_5_l {h : yH} {f t : Nat} (hf : f < 4) (ht : t < 4) (hft : f ≠ t) (hb : ∀ j, j < 400 → (zty (zkdm.getD 5 (0, 0, 0, [])) j).2.1 ≤ h 5 j ∧ h 5 j ≤ (zty (zkdm.getD 5 (0, 0, 0, [])) j).2.2) : ∀ (m i n : Nat) (g : yH), 100 - i = m → i ≤ 100 → m < n → (∀ a j, g a j = if a = 5 ∧ 100 * t ≤ j ∧ j < 100 * t + i then h 5 (j - 100 * t + 100 * f) else h a j) →
    yR (xl_X12_copyRow_5 n 3 [5, 100, (f : Int), (t : Int), (i : Int)] g) (fun _ h2 => ∀ a j, h2 a j = if a = 5 ∧ 100 * t ≤ j ∧ j < 100 * t + 100 then h 5 (j - 100 * t + 100 * f) else h a j) := by
  intro m
  induction m with
  | zero =>
    intro i n g e1 e2 e3 hg
    obtain ⟨n, rfl⟩ : ∃ n', n = n' + 1 := ⟨n - 1, by omega⟩
    have : i = 100 := by omega
    subst this
    rw [e_X12_copyRow_5_3, if_neg (by decide)]
    exact yR.s hg
  | succ m ih =>
    intro i n g e1 e2 e3 hg
    obtain ⟨n, rfl⟩ : ∃ n', n = n' + 1 := ⟨n - 1, by omega⟩
    have gi : g 5 (100 * f + i) = h 5 (100 * f + i) := by rw [hg, if_neg (by omega)]
    have b := hb (100 * f + i) (show 100 * f + i < 400 by omega)
    rw [zpr_5 ⟨f, hf⟩ ⟨t, ht⟩ ⟨i, by omega⟩] at b
    simp only at b
    rw [e_X12_copyRow_5_3, if_pos (by omega), xg_pos (by omega), xg_pos (by omega), xg_pos (by omega), xg_pos (by omega), xg_pos (by omega), xg_pos (by omega), show ((100 : Int) * (f : Int) + (i : Int)).toNat = 100 * f + i by omega, show ((100 : Int) * (t : Int) + (i : Int)).toNat = 100 * t + i by omega, gi, xg_pos b, xg_pos (by omega)]
    refine ih (i + 1) n _ (by omega) (by omega) (by omega) (fun a j => ?_)
    by_cases w : a = 5 ∧ j = 100 * t + i
    · rw [w.1, w.2, zup_at, if_pos (by omega), show 100 * t + i - 100 * t + 100 * f = 100 * f + i by omega]
    · rw [zup_ne w, hg]
      by_cases w2 : a = 5 ∧ 100 * t ≤ j ∧ j < 100 * t + i
      · rw [if_pos w2, if_pos (by omega)]
      · rw [if_neg w2, if_neg (by omega)]
theorem crow_5 {n : Nat} {h : yH} {f t : Nat} (hn : 300 ≤ n) (hf : f < 4) (ht : t < 4) (hft : f ≠ t) (hb : ∀ j, j < 400 → (zty (zkdm.getD 5 (0, 0, 0, [])) j).2.1 ≤ h 5 j ∧ h 5 j ≤ (zty (zkdm.getD 5 (0, 0, 0, [])) j).2.2) : yR (f_X12_copyRow_5 n [5, 100, (f : Int), (t : Int)] h) (fun _ h2 => ∀ a j, h2 a j = if a = 5 ∧ 100 * t ≤ j ∧ j < 100 * t + 100 then h 5 (j - 100 * t + 100 * f) else h a j) := by
  rw [e_X12_copyRow_5]
  exact crow_5_l hf ht hft hb 100 0 n h rfl (by decide) (by omega) (fun a j => by rw [if_neg (by omega)])
theorem crow_6_l {h : yH} {f t : Nat} (hf : f < 4) (ht : t < 4) (hft : f ≠ t) (hb : ∀ j, j < 968 → (zty (zkdm.getD 6 (0, 0, 0, [])) j).2.1 ≤ h 6 j ∧ h 6 j ≤ (zty (zkdm.getD 6 (0, 0, 0, [])) j).2.2) : ∀ (m i n : Nat) (g : yH), 242 - i = m → i ≤ 242 → m < n → (∀ a j, g a j = if a = 6 ∧ 242 * t ≤ j ∧ j < 242 * t + i then h 6 (j - 242 * t + 242 * f) else h a j) →
    yR (xl_X12_copyRow_6 n 3 [6, 242, (f : Int), (t : Int), (i : Int)] g) (fun _ h2 => ∀ a j, h2 a j = if a = 6 ∧ 242 * t ≤ j ∧ j < 242 * t + 242 then h 6 (j - 242 * t + 242 * f) else h a j) := by
  intro m
  induction m with
  | zero =>
    intro i n g e1 e2 e3 hg
    obtain ⟨n, rfl⟩ : ∃ n', n = n' + 1 := ⟨n - 1, by omega⟩
    have : i = 242 := by omega
    subst this
    rw [e_X12_copyRow_6_3, if_neg (by decide)]
    exact yR.s hg
  | succ m ih =>
    intro i n g e1 e2 e3 hg
    obtain ⟨n, rfl⟩ : ∃ n', n = n' + 1 := ⟨n - 1, by omega⟩
    have gi : g 6 (242 * f + i) = h 6 (242 * f + i) := by rw [hg, if_neg (by omega)]
    have b := hb (242 * f + i) (show 242 * f + i < 968 by omega)
    rw [zpr_6 ⟨f, hf⟩ ⟨t, ht⟩ ⟨i, by omega⟩] at b
    simp only at b
    rw [e_X12_copyRow_6_3, if_pos (by omega), xg_pos (by omega), xg_pos (by omega), xg_pos (by omega), xg_pos (by omega), xg_pos (by omega), xg_pos (by omega), show ((242 : Int) * (f : Int) + (i : Int)).toNat = 242 * f + i by omega, show ((242 : Int) * (t : Int) + (i : Int)).toNat = 242 * t + i by omega, gi, xg_pos b, xg_pos (by omega)]
    refine ih (i + 1) n _ (by omega) (by omega) (by omega) (fun a j => ?_)
    by_cases w : a = 6 ∧ j = 242 * t + i
    · rw [w.1, w.2, zup_at, if_pos (by omega), show 242 * t + i - 242 * t + 242 * f = 242 * f + i by omega]
    · rw [zup_ne w, hg]
      by_cases w2 : a = 6 ∧ 242 * t ≤ j ∧ j < 242 * t + i
      · rw [if_pos w2, if_pos (by omega)]
      · rw [if_neg w2, if_neg (by omega)]
theorem crow_6 {n : Nat} {h : yH} {f t : Nat} (hn : 300 ≤ n) (hf : f < 4) (ht : t < 4) (hft : f ≠ t) (hb : ∀ j, j < 968 → (zty (zkdm.getD 6 (0, 0, 0, [])) j).2.1 ≤ h 6 j ∧ h 6 j ≤ (zty (zkdm.getD 6 (0, 0, 0, [])) j).2.2) : yR (f_X12_copyRow_6 n [6, 242, (f : Int), (t : Int)] h) (fun _ h2 => ∀ a j, h2 a j = if a = 6 ∧ 242 * t ≤ j ∧ j < 242 * t + 242 then h 6 (j - 242 * t + 242 * f) else h a j) := by
  rw [e_X12_copyRow_6]
  exact crow_6_l hf ht hft hb 242 0 n h rfl (by decide) (by omega) (fun a j => by rw [if_neg (by omega)])
theorem crow_7_l {h : yH} {f t : Nat} (hf : f < 4) (ht : t < 4) (hft : f ≠ t) (hb : ∀ j, j < 416 → (zty (zkdm.getD 7 (0, 0, 0, [])) j).2.1 ≤ h 7 j ∧ h 7 j ≤ (zty (zkdm.getD 7 (0, 0, 0, [])) j).2.2) : ∀ (m i n : Nat) (g : yH), 104 - i = m → i ≤ 104 → m < n → (∀ a j, g a j = if a = 7 ∧ 104 * t ≤ j ∧ j < 104 * t + i then h 7 (j - 104 * t + 104 * f) else h a j) →
    yR (xl_X12_copyRow_7 n 3 [7, 104, (f : Int), (t : Int), (i : Int)] g) (fun _ h2 => ∀ a j, h2 a j = if a = 7 ∧ 104 * t ≤ j ∧ j < 104 * t + 104 then h 7 (j - 104 * t + 104 * f) else h a j) := by
  intro m
  induction m with
  | zero =>
    intro i n g e1 e2 e3 hg
    obtain ⟨n, rfl⟩ : ∃ n', n = n' + 1 := ⟨n - 1, by omega⟩
    have : i = 104 := by omega
    subst this
    rw [e_X12_copyRow_7_3, if_neg (by decide)]
    exact yR.s hg
  | succ m ih =>
    intro i n g e1 e2 e3 hg
    obtain ⟨n, rfl⟩ : ∃ n', n = n' + 1 := ⟨n - 1, by omega⟩
    have gi : g 7 (104 * f + i) = h 7 (104 * f + i) := by rw [hg, if_neg (by omega)]
    have b := hb (104 * f + i) (show 104 * f + i < 416 by omega)
    rw [zpr_7 ⟨f, hf⟩ ⟨t, ht⟩ ⟨i, by omega⟩] at b
    simp only at b
    rw [e_X12_copyRow_7_3, if_pos (by omega), xg_pos (by omega), xg_pos (by omega), xg_pos (by omega), xg_pos (by omega), xg_pos (by omega), xg_pos (by omega), show ((104 : Int) * (f : Int) + (i : Int)).toNat = 104 * f + i by omega, show ((104 : Int) * (t : Int) + (i : Int)).toNat = 104 * t + i by omega, gi, xg_pos b, xg_pos (by omega)]
    refine ih (i + 1) n _ (by omega) (by omega) (by omega) (fun a j => ?_)
    by_cases w : a = 7 ∧ j = 104 * t + i
    · rw [w.1, w.2, zup_at, if_pos (by omega), show 104 * t + i - 104 * t + 104 * f = 104 * f + i by omega]
    · rw [zup_ne w, hg]
      by_cases w2 : a = 7 ∧ 104 * t ≤ j ∧ j < 104 * t + i
      · rw [if_pos w2, if_pos (by omega)]
      · rw [if_neg w2, if_neg (by omega)]
theorem crow_7 {n : Nat} {h : yH} {f t : Nat} (hn : 300 ≤ n) (hf : f < 4) (ht : t < 4) (hft : f ≠ t) (hb : ∀ j, j < 416 → (zty (zkdm.getD 7 (0, 0, 0, [])) j).2.1 ≤ h 7 j ∧ h 7 j ≤ (zty (zkdm.getD 7 (0, 0, 0, [])) j).2.2) : yR (f_X12_copyRow_7 n [7, 104, (f : Int), (t : Int)] h) (fun _ h2 => ∀ a j, h2 a j = if a = 7 ∧ 104 * t ≤ j ∧ j < 104 * t + 104 then h 7 (j - 104 * t + 104 * f) else h a j) := by
  rw [e_X12_copyRow_7]
  exact crow_7_l hf ht hft hb 104 0 n h rfl (by decide) (by omega) (fun a j => by rw [if_neg (by omega)])
/-- block t is as block f was -/
def raR (f t : Nat) (h h2 : yH) : Prop := (∀ i, i < 600 → h2 0 (600 * t + i) = h 0 (600 * f + i)) ∧ h2 1 t = h 1 f ∧ h2 2 t = h 2 f ∧ h2 3 t = h 3 f ∧ (∀ i, i < 3 → h2 4 (3 * t + i) = h 4 (3 * f + i)) ∧ (∀ i, i < 100 → h2 5 (100 * t + i) = h 5 (100 * f + i)) ∧ (∀ i, i < 242 → h2 6 (242 * t + i) = h 6 (242 * f + i)) ∧ (∀ i, i < 104 → h2 7 (104 * t + i) = h 7 (104 * f + i)) ∧
  (∀ j, ¬ (600 * t ≤ j ∧ j < 600 * t + 600) → h2 0 j = h 0 j) ∧ (∀ a j, a = 1 ∨ a = 2 ∨ a = 3 → j ≠ t → h2 a j = h a j) ∧ (∀ j, ¬ (3 * t ≤ j ∧ j < 3 * t + 3) → h2 4 j = h 4 j) ∧ (∀ j, ¬ (100 * t ≤ j ∧ j < 100 * t + 100) → h2 5 j = h 5 j) ∧ (∀ j, ¬ (242 * t ≤ j ∧ j < 242 * t + 242) → h2 6 j = h 6 j) ∧ (∀ j, ¬ (104 * t ≤ j ∧ j < 104 * t + 104) → h2 7 j = h 7 j) ∧ ∀ a j, 8 ≤ a → h2 a j = h a j
theorem call_t {n : Nat} {h g : yH} {f t : Nat} (hn : 300 ≤ n) (hp : rP h) (hb : rBd h) (hf : f < 4) (ht : t < 4) (hft : f ≠ t) (hg : ∀ a j, g a j = if a = 0 ∧ 600 * t ≤ j ∧ j < 600 * t + 600 then h 0 (j - 600 * t + 600 * f) else h a j) : yR (xl_X12_copyAll (n + 1) 2 [35, (f : Int), (t : Int), 600] g) (fun _ h2 => raR f t h h2) := by
  have G : ∀ a j, a ≠ 0 → g a j = h a j := fun a j w => by rw [hg, if_neg (by omega)]
  refine yR.e e_X12_copyAll_2 ?_
  refine yR.f (by decide) ?_
  refine yR.g (by rw [G _ _ (by decide)]; exact hp.2.1) ?_
  have B1 : ∀ j, j < 4 → (zty (zkdm.getD 1 (0, 0, 0, [])) j).2.1 ≤ g 1 j ∧ g 1 j ≤ (zty (zkdm.getD 1 (0, 0, 0, [])) j).2.2 := fun j hj => by
    rw [G _ _ (by decide)]
    exact hb 1 (by decide) j hj
  refine yR.b (crow_1 hn hf ht hft B1) (fun _ h1 E1 => ?_)
  refine yR.g (by rw [E1 _ _, if_neg (by omega), G _ _ (by decide)]; exact hp.2.2.1) ?_
  refine yR.b (crow_2 hn hf ht hft) (fun _ h2 E2 => ?_)
  refine yR.g (by rw [E2 _ _, if_neg (by omega), E1 _ _, if_neg (by omega), G _ _ (by decide)]; exact hp.2.2.2.1) ?_
  refine yR.b (crow_3 hn hf ht hft) (fun _ h3 E3 => ?_)
  refine yR.g (by rw [E3 _ _, if_neg (by omega), E2 _ _, if_neg (by omega), E1 _ _, if_neg (by omega), G _ _ (by decide)]; exact hp.2.2.2.2.1) ?_
  have B4 : ∀ j, j < 12 → (zty (zkdm.getD 4 (0, 0, 0, [])) j).2.1 ≤ h3 4 j ∧ h3 4 j ≤ (zty (zkdm.getD 4 (0, 0, 0, [])) j).2.2 := fun j hj => by
    rw [E3 _ _, if_neg (by omega), E2 _ _, if_neg (by omega), E1 _ _, if_neg (by omega), G _ _ (by decide)]
    exact hb 4 (by decide) j hj
  refine yR.b (crow_4 hn hf ht hft B4) (fun _ h4 E4 => ?_)
  refine yR.g (by rw [E4 _ _, if_neg (by omega), E3 _ _, if_neg (by omega), E2 _ _, if_neg (by omega), E1 _ _, if_neg (by omega), G _ _ (by decide)]; exact hp.2.2.2.2.2.1) ?_
  have B5 : ∀ j, j < 400 → (zty (zkdm.getD 5 (0, 0, 0, [])) j).2.1 ≤ h4 5 j ∧ h4 5 j ≤ (zty (zkdm.getD 5 (0, 0, 0, [])) j).2.2 := fun j hj => by
    rw [E4 _ _, if_neg (by omega), E3 _ _, if_neg (by omega), E2 _ _, if_neg (by omega), E1 _ _, if_neg (by omega), G _ _ (by decide)]
    exact hb 5 (by decide) j hj
  refine yR.b (crow_5 hn hf ht hft B5) (fun _ h5 E5 => ?_)
  refine yR.g (by rw [E5 _ _, if_neg (by omega), E4 _ _, if_neg (by omega), E3 _ _, if_neg (by omega), E2 _ _, if_neg (by omega), E1 _ _, if_neg (by omega), G _ _ (by decide)]; exact hp.2.2.2.2.2.2.1) ?_
  have B6 : ∀ j, j < 968 → (zty (zkdm.getD 6 (0, 0, 0, [])) j).2.1 ≤ h5 6 j ∧ h5 6 j ≤ (zty (zkdm.getD 6 (0, 0, 0, [])) j).2.2 := fun j hj => by
    rw [E5 _ _, if_neg (by omega), E4 _ _, if_neg (by omega), E3 _ _, if_neg (by omega), E2 _ _, if_neg (by omega), E1 _ _, if_neg (by omega), G _ _ (by decide)]
    exact hb 6 (by decide) j hj
  refine yR.b (crow_6 hn hf ht hft B6) (fun _ h6 E6 => ?_)
  refine yR.g (by rw [E6 _ _, if_neg (by omega), E5 _ _, if_neg (by omega), E4 _ _, if_neg (by omega), E3 _ _, if_neg (by omega), E2 _ _, if_neg (by omega), E1 _ _, if_neg (by omega), G _ _ (by decide)]; exact hp.2.2.2.2.2.2.2.1) ?_
  have B7 : ∀ j, j < 416 → (zty (zkdm.getD 7 (0, 0, 0, [])) j).2.1 ≤ h6 7 j ∧ h6 7 j ≤ (zty (zkdm.getD 7 (0, 0, 0, [])) j).2.2 := fun j hj => by
    rw [E6 _ _, if_neg (by omega), E5 _ _, if_neg (by omega), E4 _ _, if_neg (by omega), E3 _ _, if_neg (by omega), E2 _ _, if_neg (by omega), E1 _ _, if_neg (by omega), G _ _ (by decide)]
    exact hb 7 (by decide) j hj
  refine yR.b (crow_7 hn hf ht hft B7) (fun _ h7 E7 => ?_)
  refine yR.s ?_
  refine ⟨fun i hi => ?_, ?_, ?_, ?_, fun i hi => ?_, fun i hi => ?_, fun i hi => ?_, fun i hi => ?_, fun j w => ?_, fun a j w w2 => ?_, fun j w => ?_, fun j w => ?_, fun j w => ?_, fun j w => ?_, fun a j w => ?_⟩
  · rw [E7 _ _, if_neg (by omega), E6 _ _, if_neg (by omega), E5 _ _, if_neg (by omega), E4 _ _, if_neg (by omega), E3 _ _, if_neg (by omega), E2 _ _, if_neg (by omega), E1 _ _, if_neg (by omega), hg, if_pos (by omega), show 600 * t + i - 600 * t + 600 * f = 600 * f + i by omega]
  · rw [E7 _ _, if_neg (by omega), E6 _ _, if_neg (by omega), E5 _ _, if_neg (by omega), E4 _ _, if_neg (by omega), E3 _ _, if_neg (by omega), E2 _ _, if_neg (by omega), E1, if_pos (by omega), show t - 1 * t + 1 * f = f by omega, G _ _ (by decide)]
  · rw [E7 _ _, if_neg (by omega), E6 _ _, if_neg (by omega), E5 _ _, if_neg (by omega), E4 _ _, if_neg (by omega), E3 _ _, if_neg (by omega), E2, if_pos (by omega), show t - 1 * t + 1 * f = f by omega, E1 _ _, if_neg (by omega), G _ _ (by decide)]
  · rw [E7 _ _, if_neg (by omega), E6 _ _, if_neg (by omega), E5 _ _, if_neg (by omega), E4 _ _, if_neg (by omega), E3, if_pos (by omega), show t - 1 * t + 1 * f = f by omega, E2 _ _, if_neg (by omega), E1 _ _, if_neg (by omega), G _ _ (by decide)]
  · rw [E7 _ _, if_neg (by omega), E6 _ _, if_neg (by omega), E5 _ _, if_neg (by omega), E4, if_pos (by omega), show 3 * t + i - 3 * t + 3 * f = 3 * f + i by omega, E3 _ _, if_neg (by omega), E2 _ _, if_neg (by omega), E1 _ _, if_neg (by omega), G _ _ (by decide)]
  · rw [E7 _ _, if_neg (by omega), E6 _ _, if_neg (by omega), E5, if_pos (by omega), show 100 * t + i - 100 * t + 100 * f = 100 * f + i by omega, E4 _ _, if_neg (by omega), E3 _ _, if_neg (by omega), E2 _ _, if_neg (by omega), E1 _ _, if_neg (by omega), G _ _ (by decide)]
  · rw [E7 _ _, if_neg (by omega), E6, if_pos (by omega), show 242 * t + i - 242 * t + 242 * f = 242 * f + i by omega, E5 _ _, if_neg (by omega), E4 _ _, if_neg (by omega), E3 _ _, if_neg (by omega), E2 _ _, if_neg (by omega), E1 _ _, if_neg (by omega), G _ _ (by decide)]
  · rw [E7, if_pos (by omega), show 104 * t + i - 104 * t + 104 * f = 104 * f + i by omega, E6 _ _, if_neg (by omega), E5 _ _, if_neg (by omega), E4 _ _, if_neg (by omega), E3 _ _, if_neg (by omega), E2 _ _, if_neg (by omega), E1 _ _, if_neg (by omega), G _ _ (by decide)]
  · rw [E7 _ _, if_neg (by omega), E6 _ _, if_neg (by omega), E5 _ _, if_neg (by omega), E4 _ _, if_neg (by omega), E3 _ _, if_neg (by omega), E2 _ _, if_neg (by omega), E1 _ _, if_neg (by omega), hg, if_neg (by omega)]
  · rw [E7 _ _, if_neg (by omega), E6 _ _, if_neg (by omega), E5 _ _, if_neg (by omega), E4 _ _, if_neg (by omega), E3 _ _, if_neg (by omega), E2 _ _, if_neg (by omega), E1 _ _, if_neg (by omega), G _ _ (by omega)]
  · rw [E7 _ _, if_neg (by omega), E6 _ _, if_neg (by omega), E5 _ _, if_neg (by omega), E4 _ _, if_neg (by omega), E3 _ _, if_neg (by omega), E2 _ _, if_neg (by omega), E1 _ _, if_neg (by omega), G _ _ (by decide)]
  · rw [E7 _ _, if_neg (by omega), E6 _ _, if_neg (by omega), E5 _ _, if_neg (by omega), E4 _ _, if_neg (by omega), E3 _ _, if_neg (by omega), E2 _ _, if_neg (by omega), E1 _ _, if_neg (by omega), G _ _ (by decide)]
  · rw [E7 _ _, if_neg (by omega), E6 _ _, if_neg (by omega), E5 _ _, if_neg (by omega), E4 _ _, if_neg (by omega), E3 _ _, if_neg (by omega), E2 _ _, if_neg (by omega), E1 _ _, if_neg (by omega), G _ _ (by decide)]
  · rw [E7 _ _, if_neg (by omega), E6 _ _, if_neg (by omega), E5 _ _, if_neg (by omega), E4 _ _, if_neg (by omega), E3 _ _, if_neg (by omega), E2 _ _, if_neg (by omega), E1 _ _, if_neg (by omega), G _ _ (by decide)]
  · rw [E7 _ _, if_neg (by omega), E6 _ _, if_neg (by omega), E5 _ _, if_neg (by omega), E4 _ _, if_neg (by omega), E3 _ _, if_neg (by omega), E2 _ _, if_neg (by omega), E1 _ _, if_neg (by omega), G _ _ (by omega)]
theorem call_l {h : yH} {f t : Nat} (hp : rP h) (hb : rBd h) (hf : f < 4) (ht : t < 4) (hft : f ≠ t) : ∀ (m i n : Nat) (g : yH), 600 - i = m → i ≤ 600 → m + 301 ≤ n → (∀ a j, g a j = if a = 0 ∧ 600 * t ≤ j ∧ j < 600 * t + i then h 0 (j - 600 * t + 600 * f) else h a j) → yR (xl_X12_copyAll n 2 [35, (f : Int), (t : Int), (i : Int)] g) (fun _ h2 => raR f t h h2) := by
  intro m
  induction m with
  | zero =>
    intro i n g e1 e2 e3 hg
    obtain ⟨n, rfl⟩ : ∃ n', n = n' + 1 := ⟨n - 1, by omega⟩
    have : i = 600 := by omega
    subst this
    exact call_t (by omega) hp hb hf ht hft hg
  | succ m ih =>
    intro i n g e1 e2 e3 hg
    obtain ⟨n, rfl⟩ : ∃ n', n = n' + 1 := ⟨n - 1, by omega⟩
    have gi : g 0 (600 * f + i) = h 0 (600 * f + i) := by rw [hg, if_neg (by omega)]
    have g1 : g 35 1 = 0 := by rw [hg, if_neg (by omega)]; exact hp.1
    have b := hb 0 (by decide) (600 * f + i) (show 600 * f + i < 2400 by omega)
    rw [zty_r0] at b
    simp only at b
    rw [e_X12_copyAll_2, if_pos (by omega), xg_pos g1, xg_pos (by omega), xg_pos (by omega), xg_pos g1, xg_pos (by omega), xg_pos (by omega), xg_pos (by omega), xg_pos (by omega), show ((600 : Int) * (f : Int) + (i : Int)).toNat = 600 * f + i by omega, show ((600 : Int) * (t : Int) + (i : Int)).toNat = 600 * t + i by omega, gi, xg_pos b, xg_pos (by omega)]
    refine ih (i + 1) n _ (by omega) (by omega) (by omega) (fun a j => ?_)
    by_cases w : a = 0 ∧ j = 600 * t + i
    · rw [w.1, w.2, zup_at, if_pos (by omega), show 600 * t + i - 600 * t + 600 * f = 600 * f + i by omega]
    · rw [zup_ne w, hg]
      by_cases w2 : a = 0 ∧ 600 * t ≤ j ∧ j < 600 * t + i
      · rw [if_pos w2, if_pos (by omega)]
      · rw [if_neg w2, if_neg (by omega)]
theorem call_e {n : Nat} {h : yH} {f t : Nat} (hn : 1000 ≤ n) (hp : rP h) (hb : rBd h) (hf : f < 4) (ht : t < 4) (hft : f ≠ t) : yR (f_X12_copyAll n [35, (f : Int), (t : Int)] h) (fun _ h2 => raR f t h h2) := by
  rw [e_X12_copyAll]
  exact call_l hp hb hf ht hft 600 0 n h rfl (by decide) (by omega) (fun a j => by rw [if_neg (by omega)])
