/-! the class: keep() -/
def cO (of k : Nat) (t : Nat → Int) (h : yH) : Prop := (of = 0 → cS (20 + 10 * k) t h) ∧ (of = 1 → cD (40 + 10 * k) t h) ∧ (of = 2 → cQ (60 + 10 * k) t h)
theorem keep_00 {n : Nat} {t : Nat → Int} {h : yH} (hP : cP h) (hS : cS 90 t h) (hW : tW0 t) (hm : 0 ≤ h 6 0 ∧ h 6 0 ≤ 2) : ∃ h2, f_X9_keep n [3, 80, 0, 0] h = some (0, h2) ∧ h2 6 0 = max (h 6 0) (0 + 1) ∧ cS 20 t h2 ∧ ∀ a j, ¬ (a = 6 ∧ j = 0) → (¬ (20 ≤ a ∧ a ≤ 27) ∨ (a = 20 ∧ (j = 5 ∨ j = 7 ∨ j = 8 ∨ j = 9 ∨ j = 11 ∨ j = 12 ∨ j = 13))) → h2 a j = h a j := by
  obtain ⟨h3, c1, c2, c3⟩ := copy6 (n := n) (d := 20) (s := 90) (t := t) (h := h) (by omega) ⟨hP.p (by decide), hP.p (by decide), hP.p (by decide), hP.p (by decide), hP.p (by decide), hP.p (by decide), hP.p (by decide)⟩ ⟨hP.p (by decide), hP.p (by decide), hP.p (by decide), hP.p (by decide), hP.p (by decide), hP.p (by decide), hP.p (by decide)⟩ hS hW
  have e6 : h3 6 0 = h 6 0 := c3 6 0 (by omega)
  have e31 : h3 3 1 = 6 := by rw [c3 3 1 (by omega)]; exact hP.p (by decide)
  have c1' : f_X6_copyFrom n [(7 + 13 + 10 * 0 : Int), 90] h = some (0, h3) := c1
  rw [e_X9_keep, if_pos (by decide), xg_pos (hP.p (by decide)), xg_pos (by decide), xg_pos (show h 7 (0 : Int).toNat = (7 + 13 + 10 * 0 : Int) from hP.p (by decide)), xg_pos (hP.p (by decide)), c1', xb_some, xg_pos e31, xg_pos e31, xg_pos (by decide), xg_pos (by decide), xg_pos (by decide), show (0 : Int).toNat = 0 from rfl, xg_pos (show 0 ≤ max (h3 6 0) (0 + 1) ∧ max (h3 6 0) (0 + 1) ≤ 2 by rw [e6]; omega)]
  refine ⟨_, rfl, ?_, c2.fr (fun a j w1 w2 => zup_ne (by omega)), fun a j w1 w2 => ?_⟩
  · show zup h3 6 0 (max (h3 6 0) (0 + 1)) 6 0 = _
    rw [zup_at, e6]
  · show zup h3 6 0 (max (h3 6 0) (0 + 1)) a j = _
    rw [zup_ne w1]
    exact c3 a j w2
theorem keep_01 {n : Nat} {t : Nat → Int} {h : yH} (hP : cP h) (hS : cS 90 t h) (hW : tW0 t) (hm : 0 ≤ h 6 0 ∧ h 6 0 ≤ 2) : ∃ h2, f_X9_keep n [3, 80, 0, 1] h = some (0, h2) ∧ h2 6 0 = max (h 6 0) (1 + 1) ∧ cS 30 t h2 ∧ ∀ a j, ¬ (a = 6 ∧ j = 0) → (¬ (30 ≤ a ∧ a ≤ 37) ∨ (a = 30 ∧ (j = 5 ∨ j = 7 ∨ j = 8 ∨ j = 9 ∨ j = 11 ∨ j = 12 ∨ j = 13))) → h2 a j = h a j := by
  obtain ⟨h3, c1, c2, c3⟩ := copy6 (n := n) (d := 30) (s := 90) (t := t) (h := h) (by omega) ⟨hP.p (by decide), hP.p (by decide), hP.p (by decide), hP.p (by decide), hP.p (by decide), hP.p (by decide), hP.p (by decide)⟩ ⟨hP.p (by decide), hP.p (by decide), hP.p (by decide), hP.p (by decide), hP.p (by decide), hP.p (by decide), hP.p (by decide)⟩ hS hW
  have e6 : h3 6 0 = h 6 0 := c3 6 0 (by omega)
  have e31 : h3 3 1 = 6 := by rw [c3 3 1 (by omega)]; exact hP.p (by decide)
  have c1' : f_X6_copyFrom n [(7 + 13 + 10 * 1 : Int), 90] h = some (0, h3) := c1
  rw [e_X9_keep, if_pos (by decide), xg_pos (hP.p (by decide)), xg_pos (by decide), xg_pos (show h 7 (1 : Int).toNat = (7 + 13 + 10 * 1 : Int) from hP.p (by decide)), xg_pos (hP.p (by decide)), c1', xb_some, xg_pos e31, xg_pos e31, xg_pos (by decide), xg_pos (by decide), xg_pos (by decide), show (0 : Int).toNat = 0 from rfl, xg_pos (show 0 ≤ max (h3 6 0) (1 + 1) ∧ max (h3 6 0) (1 + 1) ≤ 2 by rw [e6]; omega)]
  refine ⟨_, rfl, ?_, c2.fr (fun a j w1 w2 => zup_ne (by omega)), fun a j w1 w2 => ?_⟩
  · show zup h3 6 0 (max (h3 6 0) (1 + 1)) 6 0 = _
    rw [zup_at, e6]
  · show zup h3 6 0 (max (h3 6 0) (1 + 1)) a j = _
    rw [zup_ne w1]
    exact c3 a j w2
theorem keep_10 {n : Nat} {t : Nat → Int} {h : yH} (hP : cP h) (hS : cD 100 t h) (hW : tW1 t) (hm : 0 ≤ h 6 1 ∧ h 6 1 ≤ 2) : ∃ h2, f_X9_keep n [3, 80, 1, 0] h = some (0, h2) ∧ h2 6 1 = max (h 6 1) (0 + 1) ∧ cD 40 t h2 ∧ ∀ a j, ¬ (a = 6 ∧ j = 1) → (¬ (40 ≤ a ∧ a ≤ 47) ∨ (a = 40 ∧ (j = 1 ∨ j = 2))) → h2 a j = h a j := by
  obtain ⟨h3, c1, c2, c3⟩ := copy1 (n := n) (d := 40) (s := 100) (t := t) (h := h) (by omega) ⟨hP.p (by decide), hP.p (by decide)⟩ ⟨hP.p (by decide), hP.p (by decide)⟩ hS hW
  have e6 : h3 6 1 = h 6 1 := c3 6 1 (by omega)
  have e31 : h3 3 1 = 6 := by rw [c3 3 1 (by omega)]; exact hP.p (by decide)
  have c1' : f_X1_copyFrom n [(8 + 32 + 10 * 0 : Int), 100] h = some (0, h3) := c1
  rw [e_X9_keep, if_neg (by decide), if_pos (by decide), xg_pos (hP.p (by decide)), xg_pos (by decide), xg_pos (show h 8 (0 : Int).toNat = (8 + 32 + 10 * 0 : Int) from hP.p (by decide)), xg_pos (hP.p (by decide)), c1', xb_some, xg_pos e31, xg_pos e31, xg_pos (by decide), xg_pos (by decide), xg_pos (by decide), show (1 : Int).toNat = 1 from rfl, xg_pos (show 0 ≤ max (h3 6 1) (0 + 1) ∧ max (h3 6 1) (0 + 1) ≤ 2 by rw [e6]; omega)]
  refine ⟨_, rfl, ?_, c2.fr (fun a j w1 w2 => zup_ne (by omega)), fun a j w1 w2 => ?_⟩
  · show zup h3 6 1 (max (h3 6 1) (0 + 1)) 6 1 = _
    rw [zup_at, e6]
  · show zup h3 6 1 (max (h3 6 1) (0 + 1)) a j = _
    rw [zup_ne w1]
    exact c3 a j w2
theorem keep_11 {n : Nat} {t : Nat → Int} {h : yH} (hP : cP h) (hS : cD 100 t h) (hW : tW1 t) (hm : 0 ≤ h 6 1 ∧ h 6 1 ≤ 2) : ∃ h2, f_X9_keep n [3, 80, 1, 1] h = some (0, h2) ∧ h2 6 1 = max (h 6 1) (1 + 1) ∧ cD 50 t h2 ∧ ∀ a j, ¬ (a = 6 ∧ j = 1) → (¬ (50 ≤ a ∧ a ≤ 57) ∨ (a = 50 ∧ (j = 1 ∨ j = 2))) → h2 a j = h a j := by
  obtain ⟨h3, c1, c2, c3⟩ := copy1 (n := n) (d := 50) (s := 100) (t := t) (h := h) (by omega) ⟨hP.p (by decide), hP.p (by decide)⟩ ⟨hP.p (by decide), hP.p (by decide)⟩ hS hW
  have e6 : h3 6 1 = h 6 1 := c3 6 1 (by omega)
  have e31 : h3 3 1 = 6 := by rw [c3 3 1 (by omega)]; exact hP.p (by decide)
  have c1' : f_X1_copyFrom n [(8 + 32 + 10 * 1 : Int), 100] h = some (0, h3) := c1
  rw [e_X9_keep, if_neg (by decide), if_pos (by decide), xg_pos (hP.p (by decide)), xg_pos (by decide), xg_pos (show h 8 (1 : Int).toNat = (8 + 32 + 10 * 1 : Int) from hP.p (by decide)), xg_pos (hP.p (by decide)), c1', xb_some, xg_pos e31, xg_pos e31, xg_pos (by decide), xg_pos (by decide), xg_pos (by decide), show (1 : Int).toNat = 1 from rfl, xg_pos (show 0 ≤ max (h3 6 1) (1 + 1) ∧ max (h3 6 1) (1 + 1) ≤ 2 by rw [e6]; omega)]
  refine ⟨_, rfl, ?_, c2.fr (fun a j w1 w2 => zup_ne (by omega)), fun a j w1 w2 => ?_⟩
  · show zup h3 6 1 (max (h3 6 1) (1 + 1)) 6 1 = _
    rw [zup_at, e6]
  · show zup h3 6 1 (max (h3 6 1) (1 + 1)) a j = _
    rw [zup_ne w1]
    exact c3 a j w2
theorem keep_20 {n : Nat} {t : Nat → Int} {h : yH} (hP : cP h) (hS : cQ 110 t h) (hW : tW2 t) (hm : 0 ≤ h 6 2 ∧ h 6 2 ≤ 2) : ∃ h2, f_X9_keep n [3, 80, 2, 0] h = some (0, h2) ∧ h2 6 2 = max (h 6 2) (0 + 1) ∧ cQ 60 t h2 ∧ ∀ a j, ¬ (a = 6 ∧ j = 2) → (¬ (60 ≤ a ∧ a ≤ 67) ∨ (a = 60 ∧ (j = 1 ∨ j = 2 ∨ j = 4 ∨ j = 5))) → h2 a j = h a j := by
  obtain ⟨h3, c1, c2, c3⟩ := copy2 (n := n) (d := 60) (s := 110) (t := t) (h := h) (by omega) ⟨hP.p (by decide), hP.p (by decide), hP.p (by decide), hP.p (by decide)⟩ ⟨hP.p (by decide), hP.p (by decide), hP.p (by decide), hP.p (by decide)⟩ hS hW
  have e6 : h3 6 2 = h 6 2 := c3 6 2 (by omega)
  have e31 : h3 3 1 = 6 := by rw [c3 3 1 (by omega)]; exact hP.p (by decide)
  have c1' : f_X2_copyFrom n [(9 + 51 + 10 * 0 : Int), 110] h = some (0, h3) := c1
  rw [e_X9_keep, if_neg (by decide), if_neg (by decide), xg_pos (hP.p (by decide)), xg_pos (by decide), xg_pos (show h 9 (0 : Int).toNat = (9 + 51 + 10 * 0 : Int) from hP.p (by decide)), xg_pos (hP.p (by decide)), c1', xb_some, xg_pos e31, xg_pos e31, xg_pos (by decide), xg_pos (by decide), xg_pos (by decide), show (2 : Int).toNat = 2 from rfl, xg_pos (show 0 ≤ max (h3 6 2) (0 + 1) ∧ max (h3 6 2) (0 + 1) ≤ 2 by rw [e6]; omega)]
  refine ⟨_, rfl, ?_, c2.fr (fun a j w1 w2 => zup_ne (by omega)), fun a j w1 w2 => ?_⟩
  · show zup h3 6 2 (max (h3 6 2) (0 + 1)) 6 2 = _
    rw [zup_at, e6]
  · show zup h3 6 2 (max (h3 6 2) (0 + 1)) a j = _
    rw [zup_ne w1]
    exact c3 a j w2
theorem keep_21 {n : Nat} {t : Nat → Int} {h : yH} (hP : cP h) (hS : cQ 110 t h) (hW : tW2 t) (hm : 0 ≤ h 6 2 ∧ h 6 2 ≤ 2) : ∃ h2, f_X9_keep n [3, 80, 2, 1] h = some (0, h2) ∧ h2 6 2 = max (h 6 2) (1 + 1) ∧ cQ 70 t h2 ∧ ∀ a j, ¬ (a = 6 ∧ j = 2) → (¬ (70 ≤ a ∧ a ≤ 77) ∨ (a = 70 ∧ (j = 1 ∨ j = 2 ∨ j = 4 ∨ j = 5))) → h2 a j = h a j := by
  obtain ⟨h3, c1, c2, c3⟩ := copy2 (n := n) (d := 70) (s := 110) (t := t) (h := h) (by omega) ⟨hP.p (by decide), hP.p (by decide), hP.p (by decide), hP.p (by decide)⟩ ⟨hP.p (by decide), hP.p (by decide), hP.p (by decide), hP.p (by decide)⟩ hS hW
  have e6 : h3 6 2 = h 6 2 := c3 6 2 (by omega)
  have e31 : h3 3 1 = 6 := by rw [c3 3 1 (by omega)]; exact hP.p (by decide)
  have c1' : f_X2_copyFrom n [(9 + 51 + 10 * 1 : Int), 110] h = some (0, h3) := c1
  rw [e_X9_keep, if_neg (by decide), if_neg (by decide), xg_pos (hP.p (by decide)), xg_pos (by decide), xg_pos (show h 9 (1 : Int).toNat = (9 + 51 + 10 * 1 : Int) from hP.p (by decide)), xg_pos (hP.p (by decide)), c1', xb_some, xg_pos e31, xg_pos e31, xg_pos (by decide), xg_pos (by decide), xg_pos (by decide), show (2 : Int).toNat = 2 from rfl, xg_pos (show 0 ≤ max (h3 6 2) (1 + 1) ∧ max (h3 6 2) (1 + 1) ≤ 2 by rw [e6]; omega)]
  refine ⟨_, rfl, ?_, c2.fr (fun a j w1 w2 => zup_ne (by omega)), fun a j w1 w2 => ?_⟩
  · show zup h3 6 2 (max (h3 6 2) (1 + 1)) 6 2 = _
    rw [zup_at, e6]
  · show zup h3 6 2 (max (h3 6 2) (1 + 1)) a j = _
    rw [zup_ne w1]
    exact c3 a j w2
