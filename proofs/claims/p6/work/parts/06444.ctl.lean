/-! the class: a line is taken -/
def cZ (a j : Nat) : Prop := (a = 90 ∧ (j = 0 ∨ j = 1 ∨ j = 2 ∨ j = 3 ∨ j = 4 ∨ j = 6 ∨ j = 10 ∨ j = 14)) ∨ (91 ≤ a ∧ a ≤ 97) ∨ (a = 100 ∧ j = 0) ∨ (101 ≤ a ∧ a ≤ 102) ∨ (a = 110 ∧ (j = 0 ∨ j = 3)) ∨ (111 ≤ a ∧ a ≤ 114)
theorem cZ_F {a j : Nat} (h : cF a j = true) : ¬ cZ a j := by
  have H : ∀ p ∈ cPL, ¬ ((p.1 = 90 ∧ (p.2.1 = 0 ∨ p.2.1 = 1 ∨ p.2.1 = 2 ∨ p.2.1 = 3 ∨ p.2.1 = 4 ∨ p.2.1 = 6 ∨ p.2.1 = 10 ∨ p.2.1 = 14)) ∨ (91 ≤ p.1 ∧ p.1 ≤ 97) ∨ (p.1 = 100 ∧ p.2.1 = 0) ∨ (101 ≤ p.1 ∧ p.1 ≤ 102) ∨ (p.1 = 110 ∧ (p.2.1 = 0 ∨ p.2.1 = 3)) ∨ (111 ≤ p.1 ∧ p.1 ≤ 114)) := by decide +kernel
  obtain ⟨p, hp, e⟩ := List.any_eq_true.mp h
  have e1 : p.1 = a ∧ p.2.1 = j := by simpa using e
  have := H p hp
  rw [e1.1, e1.2] at this
  exact this
theorem zcy_app (h : yH) (ds sr sp dp n a j : Nat) : zcy h ds sr sp dp n a j = if a = ds ∧ dp ≤ j ∧ j < dp + n then h sr (sp + (j - dp)) else h a j := by
  unfold zcy
  by_cases c : a = ds
  · subst c
    rw [zrow_at]
    unfold va_cpy
    by_cases c2 : dp ≤ j ∧ j < dp + n
    · rw [if_pos c2, if_pos ⟨rfl, c2⟩]
    · rw [if_neg c2, if_neg (fun w => c2 w.2)]
  · rw [zrow_ne c, if_neg (fun w => c w.1)]
theorem take_0 {n : Nat} {t : Nat → Int} {g : yH} (hP : cP g) (hS : cS 90 t g) (hW : tW0 t) (hB : ∀ i, i < lnN 0 → ¬ lnB 0 (g 120) i) : ∃ h2, f_X4_takeLine n [80, ((0 : Nat) : Int)] g = some (0, h2) ∧ cS 90 (lnT 0 (g 120) t) h2 ∧ ∀ a j, ¬ cZ a j → h2 a j = g a j := by
  have b0 := lnG (hB 0 (by decide +kernel)) (lo := 2) (hi := 8) (by decide +kernel) (by decide +kernel)
  have b1 := lnG (hB 1 (by decide +kernel)) (lo := 2) (hi := 8) (by decide +kernel) (by decide +kernel)
  obtain ⟨a0, a1, a2, a3, a4, a5, a6, a7, a8, a9, a10⟩ := hS
  have hw5 : 0 ≤ t 5 ∧ t 5 ≤ 4 := hW.2.2.2.2.2.1
  have hw6 : 0 ≤ t 6 ∧ t 6 ≤ 6 := hW.2.2.2.2.2.2.1
  rw [e_X4_takeLine, if_pos (show ((0 : Nat) : Int) = 0 by decide), e_X4_takeLine_76, xg_pos (hP.p (by decide)), xg_pos (hP.p (by decide)), xg_pos (by omega), xg_pos (hP.p (by decide)), xg_pos (hP.p (by decide)), xg_pos (by omega)]
  have et : lnT 0 (g 120) t = tU (tU t 0 (g 120 0)) 1 (g 120 1) := rfl
  have hne : ∀ a j, ¬ (a = 90 ∧ (j = 0 ∨ j = 1)) → (zup (zup g 90 0 (g 120 0)) 90 1 (g 120 1)) a j = g a j := fun a j w => by rw [zup_ne (by omega), zup_ne (by omega)]
  have tne : ∀ i, ¬ (i = 0 ∨ i = 1) → (tU (tU t 0 (g 120 0)) 1 (g 120 1)) i = t i := fun i w => by rw [tU_ne (by omega), tU_ne (by omega)]
  rw [et]
  refine ⟨_, rfl, ⟨by rw [zup_ne (by omega), zup_at, tU_ne (by omega), tU_at], by rw [zup_at, tU_at], by rw [hne _ _ (by omega), tne _ (by omega)]; exact a2, by rw [hne _ _ (by omega), tne _ (by omega)]; exact a3, by rw [hne _ _ (by omega), tne _ (by omega)]; exact a4, by rw [hne _ _ (by omega), tne _ (by omega)]; exact a5, by rw [hne _ _ (by omega), tne _ (by omega)]; exact a6, by rw [hne _ _ (by omega), tne _ (by omega)]; exact a7, fun i hi => by rw [hne _ _ (by omega), tne _ (by omega)]; exact a8 i hi, fun k hk => by rw [tne _ (by omega)] at hk; rw [hne _ _ (by omega), hne _ _ (by omega), hne _ _ (by omega), tne _ (by omega), tne _ (by omega), tne _ (by omega)]; exact a9 k hk, fun k hk => by rw [tne _ (by omega)] at hk; rw [hne _ _ (by omega), hne _ _ (by omega), hne _ _ (by omega), tne _ (by omega), tne _ (by omega), tne _ (by omega)]; exact a10 k hk⟩, fun a j w => hne a j (fun w2 => w (by unfold cZ; omega))⟩
theorem take_1 {n : Nat} {t : Nat → Int} {g : yH} (hP : cP g) (hS : cS 90 t g) (hW : tW0 t) (hB : ∀ i, i < lnN 1 → ¬ lnB 1 (g 120) i) : ∃ h2, f_X4_takeLine n [80, ((1 : Nat) : Int)] g = some (0, h2) ∧ cS 90 (lnT 1 (g 120) t) h2 ∧ ∀ a j, ¬ cZ a j → h2 a j = g a j := by
  have b0 := lnG (hB 0 (by decide +kernel)) (lo := 0) (hi := 3) (by decide +kernel) (by decide +kernel)
  have b1 := lnG (hB 1 (by decide +kernel)) (lo := 0) (hi := 3) (by decide +kernel) (by decide +kernel)
  obtain ⟨a0, a1, a2, a3, a4, a5, a6, a7, a8, a9, a10⟩ := hS
  have hw5 : 0 ≤ t 5 ∧ t 5 ≤ 4 := hW.2.2.2.2.2.1
  have hw6 : 0 ≤ t 6 ∧ t 6 ≤ 6 := hW.2.2.2.2.2.2.1
  rw [e_X4_takeLine, if_neg (show ¬ ((1 : Nat) : Int) = 0 by decide), if_pos (show ((1 : Nat) : Int) = 1 by decide), e_X4_takeLine_105, xg_pos (hP.p (by decide)), xg_pos (hP.p (by decide)), xg_pos (by omega), xg_pos (hP.p (by decide)), xg_pos (hP.p (by decide))]
  have et : lnT 1 (g 120) t = tU (tU t 2 (g 120 0)) 3 (g 120 1) := rfl
  have hne : ∀ a j, ¬ (a = 90 ∧ (j = 2 ∨ j = 3)) → (zup (zup g 90 2 (g 120 0)) 90 3 (g 120 1)) a j = g a j := fun a j w => by rw [zup_ne (by omega), zup_ne (by omega)]
  have tne : ∀ i, ¬ (i = 2 ∨ i = 3) → (tU (tU t 2 (g 120 0)) 3 (g 120 1)) i = t i := fun i w => by rw [tU_ne (by omega), tU_ne (by omega)]
  rw [et]
  refine ⟨_, rfl, ⟨by rw [hne _ _ (by omega), tne _ (by omega)]; exact a0, by rw [hne _ _ (by omega), tne _ (by omega)]; exact a1, by rw [zup_ne (by omega), zup_at, tU_ne (by omega), tU_at], by rw [zup_at, tU_at], by rw [hne _ _ (by omega), tne _ (by omega)]; exact a4, by rw [hne _ _ (by omega), tne _ (by omega)]; exact a5, by rw [hne _ _ (by omega), tne _ (by omega)]; exact a6, by rw [hne _ _ (by omega), tne _ (by omega)]; exact a7, fun i hi => by rw [hne _ _ (by omega), tne _ (by omega)]; exact a8 i hi, fun k hk => by rw [tne _ (by omega)] at hk; rw [hne _ _ (by omega), hne _ _ (by omega), hne _ _ (by omega), tne _ (by omega), tne _ (by omega), tne _ (by omega)]; exact a9 k hk, fun k hk => by rw [tne _ (by omega)] at hk; rw [hne _ _ (by omega), hne _ _ (by omega), hne _ _ (by omega), tne _ (by omega), tne _ (by omega), tne _ (by omega)]; exact a10 k hk⟩, fun a j w => hne a j (fun w2 => w (by unfold cZ; omega))⟩
theorem take_2 {n : Nat} {t : Nat → Int} {g : yH} (hP : cP g) (hS : cS 90 t g) (hW : tW0 t) (hB : ∀ i, i < lnN 2 → ¬ lnB 2 (g 120) i) : ∃ h2, f_X4_takeLine n [80, ((2 : Nat) : Int)] g = some (0, h2) ∧ cS 90 (lnT 2 (g 120) t) h2 ∧ ∀ a j, ¬ cZ a j → h2 a j = g a j := by
  have b0 := lnG (hB 0 (by decide +kernel)) (lo := 1) (hi := 9) (by decide +kernel) (by decide +kernel)
  obtain ⟨a0, a1, a2, a3, a4, a5, a6, a7, a8, a9, a10⟩ := hS
  have hw5 : 0 ≤ t 5 ∧ t 5 ≤ 4 := hW.2.2.2.2.2.1
  have hw6 : 0 ≤ t 6 ∧ t 6 ≤ 6 := hW.2.2.2.2.2.2.1
  rw [e_X4_takeLine, if_neg (show ¬ ((2 : Nat) : Int) = 0 by decide), if_neg (show ¬ ((2 : Nat) : Int) = 1 by decide), if_pos (show ((2 : Nat) : Int) = 2 by decide), e_X4_takeLine_134, xg_pos (hP.p (by decide)), xg_pos (hP.p (by decide))]
  have et : lnT 2 (g 120) t = tU t 4 (g 120 0) := rfl
  have hne : ∀ a j, ¬ (a = 90 ∧ j = 4) → (zup g 90 4 (g 120 0)) a j = g a j := fun a j w => by rw [zup_ne (by omega)]
  have tne : ∀ i, ¬ (i = 4) → (tU t 4 (g 120 0)) i = t i := fun i w => by rw [tU_ne (by omega)]
  rw [et]
  refine ⟨_, rfl, ⟨by rw [hne _ _ (by omega), tne _ (by omega)]; exact a0, by rw [hne _ _ (by omega), tne _ (by omega)]; exact a1, by rw [hne _ _ (by omega), tne _ (by omega)]; exact a2, by rw [hne _ _ (by omega), tne _ (by omega)]; exact a3, by rw [zup_at, tU_at], by rw [hne _ _ (by omega), tne _ (by omega)]; exact a5, by rw [hne _ _ (by omega), tne _ (by omega)]; exact a6, by rw [hne _ _ (by omega), tne _ (by omega)]; exact a7, fun i hi => by rw [hne _ _ (by omega), tne _ (by omega)]; exact a8 i hi, fun k hk => by rw [tne _ (by omega)] at hk; rw [hne _ _ (by omega), hne _ _ (by omega), hne _ _ (by omega), tne _ (by omega), tne _ (by omega), tne _ (by omega)]; exact a9 k hk, fun k hk => by rw [tne _ (by omega)] at hk; rw [hne _ _ (by omega), hne _ _ (by omega), hne _ _ (by omega), tne _ (by omega), tne _ (by omega), tne _ (by omega)]; exact a10 k hk⟩, fun a j w => hne a j (fun w2 => w (by unfold cZ; omega))⟩
theorem take_6 {n : Nat} {t : Nat → Int} {g : yH} (hP : cP g) (hS : cS 90 t g) (hW : tW0 t) (hB : ∀ i, i < lnN 6 → ¬ lnB 6 (g 120) i) : ∃ h2, f_X4_takeLine n [80, ((6 : Nat) : Int)] g = some (0, h2) ∧ cS 90 (lnT 6 (g 120) t) h2 ∧ ∀ a j, ¬ cZ a j → h2 a j = g a j := by
  have b0 := lnG (hB 0 (by decide +kernel)) (lo := 0) (hi := 5) (by decide +kernel) (by decide +kernel)
  obtain ⟨a0, a1, a2, a3, a4, a5, a6, a7, a8, a9, a10⟩ := hS
  have hw5 : 0 ≤ t 5 ∧ t 5 ≤ 4 := hW.2.2.2.2.2.1
  have hw6 : 0 ≤ t 6 ∧ t 6 ≤ 6 := hW.2.2.2.2.2.2.1
  rw [e_X4_takeLine, if_neg (show ¬ ((6 : Nat) : Int) = 0 by decide), if_neg (show ¬ ((6 : Nat) : Int) = 1 by decide), if_neg (show ¬ ((6 : Nat) : Int) = 2 by decide), if_neg (show ¬ ((6 : Nat) : Int) = 3 by decide), if_neg (show ¬ ((6 : Nat) : Int) = 4 by decide), if_neg (show ¬ ((6 : Nat) : Int) = 5 by decide), if_pos (show ((6 : Nat) : Int) = 6 by decide), e_X4_takeLine_233, xg_pos (hP.p (by decide)), xg_pos (hP.p (by decide))]
  have et : lnT 6 (g 120) t = tU t 49 (yari 8 (t 49) (yari 5 1 (g 120 0))) := rfl
  have hne : ∀ a j, ¬ (a = 90 ∧ j = 14) → (zup g 90 14 (yari 8 (g 90 14) (yari 5 1 (g 120 0)))) a j = g a j := fun a j w => by rw [zup_ne (by omega)]
  have tne : ∀ i, ¬ (i = 49) → (tU t 49 (yari 8 (t 49) (yari 5 1 (g 120 0)))) i = t i := fun i w => by rw [tU_ne (by omega)]
  rw [et]
  refine ⟨_, rfl, ⟨by rw [hne _ _ (by omega), tne _ (by omega)]; exact a0, by rw [hne _ _ (by omega), tne _ (by omega)]; exact a1, by rw [hne _ _ (by omega), tne _ (by omega)]; exact a2, by rw [hne _ _ (by omega), tne _ (by omega)]; exact a3, by rw [hne _ _ (by omega), tne _ (by omega)]; exact a4, by rw [hne _ _ (by omega), tne _ (by omega)]; exact a5, by rw [hne _ _ (by omega), tne _ (by omega)]; exact a6, by rw [zup_at, tU_at, a7], fun i hi => by rw [hne _ _ (by omega), tne _ (by omega)]; exact a8 i hi, fun k hk => by rw [tne _ (by omega)] at hk; rw [hne _ _ (by omega), hne _ _ (by omega), hne _ _ (by omega), tne _ (by omega), tne _ (by omega), tne _ (by omega)]; exact a9 k hk, fun k hk => by rw [tne _ (by omega)] at hk; rw [hne _ _ (by omega), hne _ _ (by omega), hne _ _ (by omega), tne _ (by omega), tne _ (by omega), tne _ (by omega)]; exact a10 k hk⟩, fun a j w => hne a j (fun w2 => w (by unfold cZ; omega))⟩
theorem take_3 {n : Nat} {t : Nat → Int} {g : yH} (hP : cP g) (hS : cS 90 t g) (hW : tW0 t) (hB : ∀ i, i < lnN 3 → ¬ lnB 3 (g 120) i) : ∃ h2, f_X4_takeLine n [80, ((3 : Nat) : Int)] g = some (0, h2) ∧ cS 90 (lnT 3 (g 120) t) h2 ∧ ∀ a j, ¬ cZ a j → h2 a j = g a j := by
  have b0 := lnG (hB 0 (by decide +kernel)) (lo := 0) (hi := 2) (by decide +kernel) (by decide +kernel)
  obtain ⟨a0, a1, a2, a3, a4, a5, a6, a7, a8, a9, a10⟩ := hS
  have hw5 : 0 ≤ t 5 ∧ t 5 ≤ 4 := hW.2.2.2.2.2.1
  have hw6 : 0 ≤ t 6 ∧ t 6 ≤ 6 := hW.2.2.2.2.2.2.1
  rw [e_X4_takeLine, if_neg (show ¬ ((3 : Nat) : Int) = 0 by decide), if_neg (show ¬ ((3 : Nat) : Int) = 1 by decide), if_neg (show ¬ ((3 : Nat) : Int) = 2 by decide), if_pos (show ((3 : Nat) : Int) = 3 by decide), e_X4_takeLine_150, xg_pos (hP.p (by decide)), xg_pos (hP.p (by decide)), xg_pos (hP.p (by decide)), xg_pos (hP.p (by decide)), xg_pos (by omega), xg_pos (by omega)]
  have et : lnT 3 (g 120) t = tU (tU (tU (tU t (7 + 4 * (g 120 0).toNat) (g 120 1)) (7 + 4 * (g 120 0).toNat + 1) (g 120 2)) (7 + 4 * (g 120 0).toNat + 2) (g 120 3)) (7 + 4 * (g 120 0).toNat + 3) (g 120 4) := rfl
  have hne : ∀ a j, ¬ (a = 91 ∧ (4 * (g 120 0)).toNat ≤ j ∧ j < (4 * (g 120 0)).toNat + 4) → (zcy g 91 120 1 (4 * (g 120 0)).toNat 4) a j = g a j := fun a j w => by rw [zcy_app, if_neg (by omega)]
  have tne : ∀ i, ¬ (7 + 4 * (g 120 0).toNat ≤ i ∧ i < 11 + 4 * (g 120 0).toNat) → (tU (tU (tU (tU t (7 + 4 * (g 120 0).toNat) (g 120 1)) (7 + 4 * (g 120 0).toNat + 1) (g 120 2)) (7 + 4 * (g 120 0).toNat + 2) (g 120 3)) (7 + 4 * (g 120 0).toNat + 3) (g 120 4)) i = t i := fun i w => by rw [tU_ne (by omega), tU_ne (by omega), tU_ne (by omega), tU_ne (by omega)]
  rw [et]
  refine ⟨_, rfl, ⟨by rw [hne _ _ (by omega), tne _ (by omega)]; exact a0, by rw [hne _ _ (by omega), tne _ (by omega)]; exact a1, by rw [hne _ _ (by omega), tne _ (by omega)]; exact a2, by rw [hne _ _ (by omega), tne _ (by omega)]; exact a3, by rw [hne _ _ (by omega), tne _ (by omega)]; exact a4, by rw [hne _ _ (by omega), tne _ (by omega)]; exact a5, by rw [hne _ _ (by omega), tne _ (by omega)]; exact a6, by rw [hne _ _ (by omega), tne _ (by omega)]; exact a7, fun i hi => by
    by_cases w : (4 * (g 120 0)).toNat ≤ i ∧ i < (4 * (g 120 0)).toNat + 4
    · rw [zcy_app, if_pos ⟨rfl, w⟩]
      rcases (show i = 4 * (g 120 0).toNat ∨ i = 4 * (g 120 0).toNat + 1 ∨ i = 4 * (g 120 0).toNat + 2 ∨ i = 4 * (g 120 0).toNat + 3 by omega) with e | e | e | e
      · rw [show 7 + i = 7 + 4 * (g 120 0).toNat by omega, tU_ne (by omega), tU_ne (by omega), tU_ne (by omega), tU_at, show 1 + (i - (4 * (g 120 0)).toNat) = 1 by omega]
      · rw [show 7 + i = 7 + 4 * (g 120 0).toNat + 1 by omega, tU_ne (by omega), tU_ne (by omega), tU_at, show 1 + (i - (4 * (g 120 0)).toNat) = 2 by omega]
      · rw [show 7 + i = 7 + 4 * (g 120 0).toNat + 2 by omega, tU_ne (by omega), tU_at, show 1 + (i - (4 * (g 120 0)).toNat) = 3 by omega]
      · rw [show 7 + i = 7 + 4 * (g 120 0).toNat + 3 by omega, tU_at, show 1 + (i - (4 * (g 120 0)).toNat) = 4 by omega]
    · rw [hne _ _ (by omega), tne _ (by omega)]
      exact a8 i hi, fun k hk => by rw [tne _ (by omega)] at hk; rw [hne _ _ (by omega), hne _ _ (by omega), hne _ _ (by omega), tne _ (by omega), tne _ (by omega), tne _ (by omega)]; exact a9 k hk, fun k hk => by rw [tne _ (by omega)] at hk; rw [hne _ _ (by omega), hne _ _ (by omega), hne _ _ (by omega), tne _ (by omega), tne _ (by omega), tne _ (by omega)]; exact a10 k hk⟩, fun a j w => hne a j (fun w2 => w (by unfold cZ; omega))⟩
theorem take_4 {n : Nat} {t : Nat → Int} {g : yH} (hP : cP g) (hS : cS 90 t g) (hW : tW0 t) (hM : t 5 ≠ 4) (hB : ∀ i, i < lnN 4 → ¬ lnB 4 (g 120) i) : ∃ h2, f_X4_takeLine n [80, ((4 : Nat) : Int)] g = some (0, h2) ∧ cS 90 (lnT 4 (g 120) t) h2 ∧ ∀ a j, ¬ cZ a j → h2 a j = g a j := by
  obtain ⟨a0, a1, a2, a3, a4, a5, a6, a7, a8, a9, a10⟩ := hS
  have hw5 : 0 ≤ t 5 ∧ t 5 ≤ 4 := hW.2.2.2.2.2.1
  have hw6 : 0 ≤ t 6 ∧ t 6 ≤ 6 := hW.2.2.2.2.2.2.1
  have hw : 0 ≤ t 5 ∧ t 5 ≤ 4 := hW.2.2.2.2.2.1
  rw [e_X4_takeLine, if_neg (show ¬ ((4 : Nat) : Int) = 0 by decide), if_neg (show ¬ ((4 : Nat) : Int) = 1 by decide), if_neg (show ¬ ((4 : Nat) : Int) = 2 by decide), if_neg (show ¬ ((4 : Nat) : Int) = 3 by decide), if_pos (show ((4 : Nat) : Int) = 4 by decide), e_X4_takeLine_177, xg_pos (hP.p (by decide)), xg_pos (hP.p (by decide)), xg_pos (hP.p (by decide)), xg_pos (hP.p (by decide)), e_X6_addShoal, a5, if_pos (by omega), xg_pos (hP.p (by decide)), xg_pos (by omega), xg_pos (hP.p (by decide)), xg_pos (by omega), xg_pos (hP.p (by decide)), xg_pos (by omega), xg_pos (by omega), xg_pos (by omega), xb_some]
  have et : lnT 4 (g 120) t = tK t 5 19 3 4 (g 120) := rfl
  have hne : ∀ a j, ¬ ((a = 92 ∧ j = (t 5).toNat) ∨ (a = 93 ∧ j = (t 5).toNat) ∨ (a = 94 ∧ j = (t 5).toNat) ∨ (a = 90 ∧ j = 6)) → (zup (zup (zup (zup g 92 (t 5).toNat (g 120 0)) 93 (t 5).toNat (g 120 1)) 94 (t 5).toNat (g 120 2)) 90 6 (t 5 + 1)) a j = g a j := fun a j w => by rw [zup_ne (by omega), zup_ne (by omega), zup_ne (by omega), zup_ne (by omega)]
  have tne : ∀ i, ¬ (i = 5 ∨ (19 + 3 * (t 5).toNat ≤ i ∧ i < 19 + 3 * (t 5).toNat + 3)) → (tK t 5 19 3 4 (g 120)) i = t i := fun i w => tK_old (by omega) (by omega)
  rw [et]
  refine ⟨_, rfl, ⟨by rw [hne _ _ (by omega), tne _ (by omega)]; exact a0, by rw [hne _ _ (by omega), tne _ (by omega)]; exact a1, by rw [hne _ _ (by omega), tne _ (by omega)]; exact a2, by rw [hne _ _ (by omega), tne _ (by omega)]; exact a3, by rw [hne _ _ (by omega), tne _ (by omega)]; exact a4, by rw [zup_at]; exact (tK_c1 hM).symm, by rw [hne _ _ (by omega), tne _ (by omega)]; exact a6, by rw [hne _ _ (by omega), tne _ (by omega)]; exact a7, fun i hi => by rw [hne _ _ (by omega), tne _ (by omega)]; exact a8 i hi, fun k hk => by
    have ec : (tK t 5 19 3 4 (g 120)) 5 = t 5 + 1 := tK_c1 hM
    rw [ec] at hk
    by_cases w : (k : Int) = t 5
    · obtain rfl : k = (t 5).toNat := by omega
      have r0 := tK_new (t := t) (ct := 5) (from_ := 19) (wide := 3) (most := 4) (r := 0) (v := g 120) hM (by decide) (by decide)
      have r1 := tK_new (t := t) (ct := 5) (from_ := 19) (wide := 3) (most := 4) (r := 1) (v := g 120) hM (by decide) (by decide)
      have r2 := tK_new (t := t) (ct := 5) (from_ := 19) (wide := 3) (most := 4) (r := 2) (v := g 120) hM (by decide) (by decide)
      rw [show 19 + 3 * (t 5).toNat + 1 = 20 + 3 * (t 5).toNat by omega] at r1
      rw [show 19 + 3 * (t 5).toNat + 2 = 21 + 3 * (t 5).toNat by omega] at r2
      rw [Nat.add_zero] at r0
      rw [r0, r1, r2]
      exact ⟨by rw [zup_ne (by omega), zup_ne (by omega), zup_ne (by omega), zup_eq (by omega) rfl], by rw [zup_ne (by omega), zup_ne (by omega), zup_eq (by omega) rfl], by rw [zup_ne (by omega), zup_eq (by omega) rfl]⟩
    · rw [hne _ _ (by omega), hne _ _ (by omega), hne _ _ (by omega), tne _ (by omega), tne _ (by omega), tne _ (by omega)]
      exact a9 k (by omega), fun k hk => by rw [tne _ (by omega)] at hk; rw [hne _ _ (by omega), hne _ _ (by omega), hne _ _ (by omega), tne _ (by omega), tne _ (by omega), tne _ (by omega)]; exact a10 k hk⟩, fun a j w => hne a j (fun w2 => w (by unfold cZ; omega))⟩
theorem take_5 {n : Nat} {t : Nat → Int} {g : yH} (hP : cP g) (hS : cS 90 t g) (hW : tW0 t) (hM : t 6 ≠ 6) (hB : ∀ i, i < lnN 5 → ¬ lnB 5 (g 120) i) : ∃ h2, f_X4_takeLine n [80, ((5 : Nat) : Int)] g = some (0, h2) ∧ cS 90 (lnT 5 (g 120) t) h2 ∧ ∀ a j, ¬ cZ a j → h2 a j = g a j := by
  have b2 := lnG (hB 2 (by decide +kernel)) (lo := 0) (hi := 2) (by decide +kernel) (by decide +kernel)
  obtain ⟨a0, a1, a2, a3, a4, a5, a6, a7, a8, a9, a10⟩ := hS
  have hw5 : 0 ≤ t 5 ∧ t 5 ≤ 4 := hW.2.2.2.2.2.1
  have hw6 : 0 ≤ t 6 ∧ t 6 ≤ 6 := hW.2.2.2.2.2.2.1
  have hw : 0 ≤ t 6 ∧ t 6 ≤ 6 := hW.2.2.2.2.2.2.1
  rw [e_X4_takeLine, if_neg (show ¬ ((5 : Nat) : Int) = 0 by decide), if_neg (show ¬ ((5 : Nat) : Int) = 1 by decide), if_neg (show ¬ ((5 : Nat) : Int) = 2 by decide), if_neg (show ¬ ((5 : Nat) : Int) = 3 by decide), if_neg (show ¬ ((5 : Nat) : Int) = 4 by decide), if_pos (show ((5 : Nat) : Int) = 5 by decide), e_X4_takeLine_205, xg_pos (hP.p (by decide)), xg_pos (hP.p (by decide)), xg_pos (hP.p (by decide)), xg_pos (hP.p (by decide)), e_X6_addBoat, a6, if_pos (by omega), xg_pos (hP.p (by decide)), xg_pos (by omega), xg_pos (hP.p (by decide)), xg_pos (by omega), xg_pos (hP.p (by decide)), xg_pos (by omega), xg_pos b2, xg_pos (by omega), xg_pos (by omega), xb_some]
  have et : lnT 5 (g 120) t = tK t 6 31 3 6 (g 120) := rfl
  have hne : ∀ a j, ¬ ((a = 95 ∧ j = (t 6).toNat) ∨ (a = 96 ∧ j = (t 6).toNat) ∨ (a = 97 ∧ j = (t 6).toNat) ∨ (a = 90 ∧ j = 10)) → (zup (zup (zup (zup g 95 (t 6).toNat (g 120 0)) 96 (t 6).toNat (g 120 1)) 97 (t 6).toNat (g 120 2)) 90 10 (t 6 + 1)) a j = g a j := fun a j w => by rw [zup_ne (by omega), zup_ne (by omega), zup_ne (by omega), zup_ne (by omega)]
  have tne : ∀ i, ¬ (i = 6 ∨ (31 + 3 * (t 6).toNat ≤ i ∧ i < 31 + 3 * (t 6).toNat + 3)) → (tK t 6 31 3 6 (g 120)) i = t i := fun i w => tK_old (by omega) (by omega)
  rw [et]
  refine ⟨_, rfl, ⟨by rw [hne _ _ (by omega), tne _ (by omega)]; exact a0, by rw [hne _ _ (by omega), tne _ (by omega)]; exact a1, by rw [hne _ _ (by omega), tne _ (by omega)]; exact a2, by rw [hne _ _ (by omega), tne _ (by omega)]; exact a3, by rw [hne _ _ (by omega), tne _ (by omega)]; exact a4, by rw [hne _ _ (by omega), tne _ (by omega)]; exact a5, by rw [zup_at]; exact (tK_c1 hM).symm, by rw [hne _ _ (by omega), tne _ (by omega)]; exact a7, fun i hi => by rw [hne _ _ (by omega), tne _ (by omega)]; exact a8 i hi, fun k hk => by rw [tne _ (by omega)] at hk; rw [hne _ _ (by omega), hne _ _ (by omega), hne _ _ (by omega), tne _ (by omega), tne _ (by omega), tne _ (by omega)]; exact a9 k hk, fun k hk => by
    have ec : (tK t 6 31 3 6 (g 120)) 6 = t 6 + 1 := tK_c1 hM
    rw [ec] at hk
    by_cases w : (k : Int) = t 6
    · obtain rfl : k = (t 6).toNat := by omega
      have r0 := tK_new (t := t) (ct := 6) (from_ := 31) (wide := 3) (most := 6) (r := 0) (v := g 120) hM (by decide) (by decide)
      have r1 := tK_new (t := t) (ct := 6) (from_ := 31) (wide := 3) (most := 6) (r := 1) (v := g 120) hM (by decide) (by decide)
      have r2 := tK_new (t := t) (ct := 6) (from_ := 31) (wide := 3) (most := 6) (r := 2) (v := g 120) hM (by decide) (by decide)
      rw [show 31 + 3 * (t 6).toNat + 1 = 32 + 3 * (t 6).toNat by omega] at r1
      rw [show 31 + 3 * (t 6).toNat + 2 = 33 + 3 * (t 6).toNat by omega] at r2
      rw [Nat.add_zero] at r0
      rw [r0, r1, r2]
      exact ⟨by rw [zup_ne (by omega), zup_ne (by omega), zup_ne (by omega), zup_eq (by omega) rfl], by rw [zup_ne (by omega), zup_ne (by omega), zup_eq (by omega) rfl], by rw [zup_ne (by omega), zup_eq (by omega) rfl]⟩
    · rw [hne _ _ (by omega), hne _ _ (by omega), hne _ _ (by omega), tne _ (by omega), tne _ (by omega), tne _ (by omega)]
      exact a10 k (by omega)⟩, fun a j w => hne a j (fun w2 => w (by unfold cZ; omega))⟩
theorem take_13 {n : Nat} {t : Nat → Int} {g : yH} (hP : cP g) (hS : cQ 110 t g) (hW : tW2 t) (hM : t 0 ≠ 9) (hB : ∀ i, i < lnN 13 → ¬ lnB 13 (g 120) i) : ∃ h2, f_X4_takeLine n [80, ((13 : Nat) : Int)] g = some (0, h2) ∧ cQ 110 (lnT 13 (g 120) t) h2 ∧ ∀ a j, ¬ cZ a j → h2 a j = g a j := by
  obtain ⟨a0, a1, a2, a3⟩ := hS
  have hw0 : 0 ≤ t 0 ∧ t 0 ≤ 9 := hW.1
  have hw1 : 0 ≤ t 1 ∧ t 1 ≤ 16 := hW.2.1
  rw [e_X4_takeLine, if_neg (show ¬ ((13 : Nat) : Int) = 0 by decide), if_neg (show ¬ ((13 : Nat) : Int) = 1 by decide), if_neg (show ¬ ((13 : Nat) : Int) = 2 by decide), if_neg (show ¬ ((13 : Nat) : Int) = 3 by decide), if_neg (show ¬ ((13 : Nat) : Int) = 4 by decide), if_neg (show ¬ ((13 : Nat) : Int) = 5 by decide), if_neg (show ¬ ((13 : Nat) : Int) = 6 by decide), if_neg (show ¬ ((13 : Nat) : Int) = 7 by decide), if_neg (show ¬ ((13 : Nat) : Int) = 8 by decide), if_neg (show ¬ ((13 : Nat) : Int) = 9 by decide), if_neg (show ¬ ((13 : Nat) : Int) = 10 by decide), if_neg (show ¬ ((13 : Nat) : Int) = 11 by decide), if_neg (show ¬ ((13 : Nat) : Int) = 12 by decide), if_pos (show ((13 : Nat) : Int) = 13 by decide), e_X4_takeLine_256, xg_pos (hP.p (by decide)), xg_pos (hP.p (by decide)), xg_pos (hP.p (by decide)), e_X2_addSaying, a0, if_pos (by omega), xg_pos (hP.p (by decide)), xg_pos (by omega), xg_pos (hP.p (by decide)), xg_pos (by omega), xg_pos (by omega), xg_pos (by omega), xb_some]
  have et : lnT 13 (g 120) t = tK t 0 2 2 9 (g 120) := rfl
  have hne : ∀ a j, ¬ ((a = 111 ∧ j = (t 0).toNat) ∨ (a = 112 ∧ j = (t 0).toNat) ∨ (a = 110 ∧ j = 0)) → (zup (zup (zup g 111 (t 0).toNat (g 120 0)) 112 (t 0).toNat (g 120 1)) 110 0 (t 0 + 1)) a j = g a j := fun a j w => by rw [zup_ne (by omega), zup_ne (by omega), zup_ne (by omega)]
  have tne : ∀ i, ¬ (i = 0 ∨ (2 + 2 * (t 0).toNat ≤ i ∧ i < 2 + 2 * (t 0).toNat + 2)) → (tK t 0 2 2 9 (g 120)) i = t i := fun i w => tK_old (by omega) (by omega)
  rw [et]
  refine ⟨_, rfl, ⟨by rw [zup_at]; exact (tK_c1 hM).symm, by rw [hne _ _ (by omega), tne _ (by omega)]; exact a1, fun k hk => by
    have ec : (tK t 0 2 2 9 (g 120)) 0 = t 0 + 1 := tK_c1 hM
    rw [ec] at hk
    by_cases w : (k : Int) = t 0
    · obtain rfl : k = (t 0).toNat := by omega
      have r0 := tK_new (t := t) (ct := 0) (from_ := 2) (wide := 2) (most := 9) (r := 0) (v := g 120) hM (by decide) (by decide)
      have r1 := tK_new (t := t) (ct := 0) (from_ := 2) (wide := 2) (most := 9) (r := 1) (v := g 120) hM (by decide) (by decide)
      rw [show 2 + 2 * (t 0).toNat + 1 = 3 + 2 * (t 0).toNat by omega] at r1
      rw [Nat.add_zero] at r0
      rw [r0, r1]
      exact ⟨by rw [zup_ne (by omega), zup_ne (by omega), zup_eq (by omega) rfl], by rw [zup_ne (by omega), zup_eq (by omega) rfl]⟩
    · rw [hne _ _ (by omega), hne _ _ (by omega), tne _ (by omega), tne _ (by omega)]
      exact a2 k (by omega), fun k hk => by rw [tne _ (by omega)] at hk; rw [hne _ _ (by omega), hne _ _ (by omega), tne _ (by omega), tne _ (by omega)]; exact a3 k hk⟩, fun a j w => hne a j (fun w2 => w (by unfold cZ; omega))⟩
theorem take_14 {n : Nat} {t : Nat → Int} {g : yH} (hP : cP g) (hS : cQ 110 t g) (hW : tW2 t) (hM : t 1 ≠ 16) (hB : ∀ i, i < lnN 14 → ¬ lnB 14 (g 120) i) : ∃ h2, f_X4_takeLine n [80, ((14 : Nat) : Int)] g = some (0, h2) ∧ cQ 110 (lnT 14 (g 120) t) h2 ∧ ∀ a j, ¬ cZ a j → h2 a j = g a j := by
  have b0 := lnG (hB 0 (by decide +kernel)) (lo := 0) (hi := 8) (by decide +kernel) (by decide +kernel)
  have b1 := lnG (hB 1 (by decide +kernel)) (lo := 0) (hi := 8) (by decide +kernel) (by decide +kernel)
  obtain ⟨a0, a1, a2, a3⟩ := hS
  have hw0 : 0 ≤ t 0 ∧ t 0 ≤ 9 := hW.1
  have hw1 : 0 ≤ t 1 ∧ t 1 ≤ 16 := hW.2.1
  rw [e_X4_takeLine, if_neg (show ¬ ((14 : Nat) : Int) = 0 by decide), if_neg (show ¬ ((14 : Nat) : Int) = 1 by decide), if_neg (show ¬ ((14 : Nat) : Int) = 2 by decide), if_neg (show ¬ ((14 : Nat) : Int) = 3 by decide), if_neg (show ¬ ((14 : Nat) : Int) = 4 by decide), if_neg (show ¬ ((14 : Nat) : Int) = 5 by decide), if_neg (show ¬ ((14 : Nat) : Int) = 6 by decide), if_neg (show ¬ ((14 : Nat) : Int) = 7 by decide), if_neg (show ¬ ((14 : Nat) : Int) = 8 by decide), if_neg (show ¬ ((14 : Nat) : Int) = 9 by decide), if_neg (show ¬ ((14 : Nat) : Int) = 10 by decide), if_neg (show ¬ ((14 : Nat) : Int) = 11 by decide), if_neg (show ¬ ((14 : Nat) : Int) = 12 by decide), if_neg (show ¬ ((14 : Nat) : Int) = 13 by decide), if_pos (show ((14 : Nat) : Int) = 14 by decide), e_X4_takeLine_278, xg_pos (hP.p (by decide)), xg_pos (hP.p (by decide)), xg_pos (hP.p (by decide)), e_X2_addAhead, a1, if_pos (by omega), xg_pos (hP.p (by decide)), xg_pos (by omega), xg_pos b0, xg_pos (hP.p (by decide)), xg_pos (by omega), xg_pos b1, xg_pos (by omega), xg_pos (by omega), xb_some]
  have et : lnT 14 (g 120) t = tK t 1 20 2 16 (g 120) := rfl
  have hne : ∀ a j, ¬ ((a = 113 ∧ j = (t 1).toNat) ∨ (a = 114 ∧ j = (t 1).toNat) ∨ (a = 110 ∧ j = 3)) → (zup (zup (zup g 113 (t 1).toNat (g 120 0)) 114 (t 1).toNat (g 120 1)) 110 3 (t 1 + 1)) a j = g a j := fun a j w => by rw [zup_ne (by omega), zup_ne (by omega), zup_ne (by omega)]
  have tne : ∀ i, ¬ (i = 1 ∨ (20 + 2 * (t 1).toNat ≤ i ∧ i < 20 + 2 * (t 1).toNat + 2)) → (tK t 1 20 2 16 (g 120)) i = t i := fun i w => tK_old (by omega) (by omega)
  rw [et]
  refine ⟨_, rfl, ⟨by rw [hne _ _ (by omega), tne _ (by omega)]; exact a0, by rw [zup_at]; exact (tK_c1 hM).symm, fun k hk => by rw [tne _ (by omega)] at hk; rw [hne _ _ (by omega), hne _ _ (by omega), tne _ (by omega), tne _ (by omega)]; exact a2 k hk, fun k hk => by
    have ec : (tK t 1 20 2 16 (g 120)) 1 = t 1 + 1 := tK_c1 hM
    rw [ec] at hk
    by_cases w : (k : Int) = t 1
    · obtain rfl : k = (t 1).toNat := by omega
      have r0 := tK_new (t := t) (ct := 1) (from_ := 20) (wide := 2) (most := 16) (r := 0) (v := g 120) hM (by decide) (by decide)
      have r1 := tK_new (t := t) (ct := 1) (from_ := 20) (wide := 2) (most := 16) (r := 1) (v := g 120) hM (by decide) (by decide)
      rw [show 20 + 2 * (t 1).toNat + 1 = 21 + 2 * (t 1).toNat by omega] at r1
      rw [Nat.add_zero] at r0
      rw [r0, r1]
      exact ⟨by rw [zup_ne (by omega), zup_ne (by omega), zup_eq (by omega) rfl], by rw [zup_ne (by omega), zup_eq (by omega) rfl]⟩
    · rw [hne _ _ (by omega), hne _ _ (by omega), tne _ (by omega), tne _ (by omega)]
      exact a3 k (by omega)⟩, fun a j w => hne a j (fun w2 => w (by unfold cZ; omega))⟩
theorem deed_s {n i d : Nat} {k c w : Int} {h : yH} (hP : cP h) (hd : h 100 0 = (d : Int)) (hd2 : d < 30) (hi : i < 3) (hw : h 120 i = w) : xl_X1_addDeed (n + 1) 22 [100, k, 120, c, (i : Int)] h = xl_X1_addDeed n 22 [100, k, 120, c, (i : Int) + 1] (zup h 102 (3 * d + i) (if (i : Int) < c then w else -1)) := by
  rw [e_X1_addDeed_22, if_pos (by omega), xg_pos (hP.p (by decide)), hd, xg_pos (by omega), xg_pos (by omega), show (3 * (d : Int) + (i : Int)).toNat = 3 * d + i by omega, Int.toNat_natCast, hw]
  by_cases w : (i : Int) < c
  · rw [if_pos w, if_pos (by omega), xg_pos (by omega), xg_pos (by omega), xg_pos (by omega), if_pos w]
  · rw [if_neg w, xg_pos (by omega), xg_pos (by omega), if_neg w]
theorem deed_e {n d : Nat} {k c : Int} {h : yH} (hP : cP h) (hd : h 100 0 = (d : Int)) (hd2 : d < 30) (hk : 0 ≤ k ∧ k ≤ 5) (hn : 5 ≤ n) : f_X1_addDeed n [100, k, 120, c] h = some (0, zup (zup (zup (zup (zup h 101 d k) 102 (3 * d + 0) (if (0 : Int) < c then h 120 0 else -1)) 102 (3 * d + 1) (if (1 : Int) < c then h 120 1 else -1)) 102 (3 * d + 2) (if (2 : Int) < c then h 120 2 else -1)) 100 0 ((d : Int) + 1)) := by
  obtain ⟨n, rfl⟩ : ∃ n', n = n' + 4 := ⟨n - 4, by omega⟩
  rw [e_X1_addDeed, hd, if_pos (by omega), xg_pos (hP.p (by decide)), xg_pos (by omega), xg_pos hk, Int.toNat_natCast]
  have cf1 : ∀ j, cF 101 j = false := fun j => by
    unfold cF
    rw [List.any_eq_false]
    intro p hp
    have : ∀ p ∈ cPL, p.1 ≠ 101 := by decide +kernel
    simp [this p hp]
  have cf2 : ∀ j, cF 102 j = false := fun j => by
    unfold cF
    rw [List.any_eq_false]
    intro p hp
    have : ∀ p ∈ cPL, p.1 ≠ 102 := by decide +kernel
    simp [this p hp]
  have p1 : cP (zup h 101 d k) := hP.up (cf1 _)
  have q1 : zup h 101 d k 100 0 = (d : Int) := by rw [zup_ne (by omega)]; exact hd
  have v1 : ∀ j, zup h 101 d k 120 j = h 120 j := fun j => zup_ne (by omega)
  generalize zup h 101 d k = g1 at *
  have s1 : xl_X1_addDeed (n + 3 + 1) 22 [100, k, 120, c, 0] g1 = xl_X1_addDeed (n + 3) 22 [100, k, 120, c, 1] (zup g1 102 (3 * d + 0) (if (0 : Int) < c then h 120 0 else -1)) := deed_s (i := 0) p1 q1 hd2 (by decide) (v1 0)
  rw [s1]
  clear s1
  generalize (if (0 : Int) < c then h 120 0 else -1) = w0
  have p2 : cP (zup g1 102 (3 * d + 0) w0) := p1.up (cf2 _)
  have q2 : zup g1 102 (3 * d + 0) w0 100 0 = (d : Int) := by rw [zup_ne (by omega)]; exact q1
  have v2 : ∀ j, zup g1 102 (3 * d + 0) w0 120 j = h 120 j := fun j => by rw [zup_ne (by omega)]; exact v1 j
  generalize zup g1 102 (3 * d + 0) w0 = g2 at *
  have s2 : xl_X1_addDeed (n + 2 + 1) 22 [100, k, 120, c, 1] g2 = xl_X1_addDeed (n + 2) 22 [100, k, 120, c, 2] (zup g2 102 (3 * d + 1) (if (1 : Int) < c then h 120 1 else -1)) := deed_s (i := 1) p2 q2 hd2 (by decide) (v2 1)
  rw [s2]
  clear s2
  generalize (if (1 : Int) < c then h 120 1 else -1) = w1
  have p3 : cP (zup g2 102 (3 * d + 1) w1) := p2.up (cf2 _)
  have q3 : zup g2 102 (3 * d + 1) w1 100 0 = (d : Int) := by rw [zup_ne (by omega)]; exact q2
  have v3 : ∀ j, zup g2 102 (3 * d + 1) w1 120 j = h 120 j := fun j => by rw [zup_ne (by omega)]; exact v2 j
  generalize zup g2 102 (3 * d + 1) w1 = g3 at *
  have s3 : xl_X1_addDeed (n + 1 + 1) 22 [100, k, 120, c, 2] g3 = xl_X1_addDeed (n + 1) 22 [100, k, 120, c, 3] (zup g3 102 (3 * d + 2) (if (2 : Int) < c then h 120 2 else -1)) := deed_s (i := 2) p3 q3 hd2 (by decide) (v3 2)
  rw [s3, e_X1_addDeed_22, if_neg (by decide), zup_ne (by omega), q3, xg_pos (by omega), xg_pos (by omega)]
theorem take_d {n ln : Nat} {t : Nat → Int} {g : yH} (hP : cP g) (hS : cD 100 t g) (hW : tW1 t) (hM : t 0 ≠ 30) (h7 : 7 ≤ ln ∧ ln < 13) (hn : 5 ≤ n) : ∃ h2, f_X4_takeLine n [80, (ln : Int)] g = some (0, h2) ∧ cD 100 (lnT ln (g 120) t) h2 ∧ ∀ a j, ¬ cZ a j → h2 a j = g a j := by
  obtain ⟨a0, a1⟩ := hS
  have hw : 0 ≤ t 0 ∧ t 0 ≤ 30 := hW.1
  obtain ⟨d, hd⟩ : ∃ d : Nat, t 0 = (d : Int) := ⟨(t 0).toNat, by omega⟩
  have hd2 : d < 30 := by omega
  have hN := (lnN_b ⟨ln, by omega⟩).1
  simp only at hN
  have e300 : f_X4_takeLine n [80, (ln : Int)] g = xq_X4_takeLine_300 n [80, (ln : Int)] g := by
    rw [e_X4_takeLine]
    rcases (show ln = 7 ∨ ln = 8 ∨ ln = 9 ∨ ln = 10 ∨ ln = 11 ∨ ln = 12 by omega) with rfl | rfl | rfl | rfl | rfl | rfl
    · rw [if_neg (show ¬ ((7 : Nat) : Int) = 0 by decide), if_neg (show ¬ ((7 : Nat) : Int) = 1 by decide), if_neg (show ¬ ((7 : Nat) : Int) = 2 by decide), if_neg (show ¬ ((7 : Nat) : Int) = 3 by decide), if_neg (show ¬ ((7 : Nat) : Int) = 4 by decide), if_neg (show ¬ ((7 : Nat) : Int) = 5 by decide), if_neg (show ¬ ((7 : Nat) : Int) = 6 by decide), if_pos (show ((7 : Nat) : Int) = 7 by decide)]
    · rw [if_neg (show ¬ ((8 : Nat) : Int) = 0 by decide), if_neg (show ¬ ((8 : Nat) : Int) = 1 by decide), if_neg (show ¬ ((8 : Nat) : Int) = 2 by decide), if_neg (show ¬ ((8 : Nat) : Int) = 3 by decide), if_neg (show ¬ ((8 : Nat) : Int) = 4 by decide), if_neg (show ¬ ((8 : Nat) : Int) = 5 by decide), if_neg (show ¬ ((8 : Nat) : Int) = 6 by decide), if_neg (show ¬ ((8 : Nat) : Int) = 7 by decide), if_pos (show ((8 : Nat) : Int) = 8 by decide)]
    · rw [if_neg (show ¬ ((9 : Nat) : Int) = 0 by decide), if_neg (show ¬ ((9 : Nat) : Int) = 1 by decide), if_neg (show ¬ ((9 : Nat) : Int) = 2 by decide), if_neg (show ¬ ((9 : Nat) : Int) = 3 by decide), if_neg (show ¬ ((9 : Nat) : Int) = 4 by decide), if_neg (show ¬ ((9 : Nat) : Int) = 5 by decide), if_neg (show ¬ ((9 : Nat) : Int) = 6 by decide), if_neg (show ¬ ((9 : Nat) : Int) = 7 by decide), if_neg (show ¬ ((9 : Nat) : Int) = 8 by decide), if_pos (show ((9 : Nat) : Int) = 9 by decide)]
    · rw [if_neg (show ¬ ((10 : Nat) : Int) = 0 by decide), if_neg (show ¬ ((10 : Nat) : Int) = 1 by decide), if_neg (show ¬ ((10 : Nat) : Int) = 2 by decide), if_neg (show ¬ ((10 : Nat) : Int) = 3 by decide), if_neg (show ¬ ((10 : Nat) : Int) = 4 by decide), if_neg (show ¬ ((10 : Nat) : Int) = 5 by decide), if_neg (show ¬ ((10 : Nat) : Int) = 6 by decide), if_neg (show ¬ ((10 : Nat) : Int) = 7 by decide), if_neg (show ¬ ((10 : Nat) : Int) = 8 by decide), if_neg (show ¬ ((10 : Nat) : Int) = 9 by decide), if_pos (show ((10 : Nat) : Int) = 10 by decide)]
    · rw [if_neg (show ¬ ((11 : Nat) : Int) = 0 by decide), if_neg (show ¬ ((11 : Nat) : Int) = 1 by decide), if_neg (show ¬ ((11 : Nat) : Int) = 2 by decide), if_neg (show ¬ ((11 : Nat) : Int) = 3 by decide), if_neg (show ¬ ((11 : Nat) : Int) = 4 by decide), if_neg (show ¬ ((11 : Nat) : Int) = 5 by decide), if_neg (show ¬ ((11 : Nat) : Int) = 6 by decide), if_neg (show ¬ ((11 : Nat) : Int) = 7 by decide), if_neg (show ¬ ((11 : Nat) : Int) = 8 by decide), if_neg (show ¬ ((11 : Nat) : Int) = 9 by decide), if_neg (show ¬ ((11 : Nat) : Int) = 10 by decide), if_pos (show ((11 : Nat) : Int) = 11 by decide)]
    · rw [if_neg (show ¬ ((12 : Nat) : Int) = 0 by decide), if_neg (show ¬ ((12 : Nat) : Int) = 1 by decide), if_neg (show ¬ ((12 : Nat) : Int) = 2 by decide), if_neg (show ¬ ((12 : Nat) : Int) = 3 by decide), if_neg (show ¬ ((12 : Nat) : Int) = 4 by decide), if_neg (show ¬ ((12 : Nat) : Int) = 5 by decide), if_neg (show ¬ ((12 : Nat) : Int) = 6 by decide), if_neg (show ¬ ((12 : Nat) : Int) = 7 by decide), if_neg (show ¬ ((12 : Nat) : Int) = 8 by decide), if_neg (show ¬ ((12 : Nat) : Int) = 9 by decide), if_neg (show ¬ ((12 : Nat) : Int) = 10 by decide), if_neg (show ¬ ((12 : Nat) : Int) = 11 by decide), if_pos (show ((12 : Nat) : Int) = 12 by decide)]
  rw [e300, e_X4_takeLine_300, xg_pos (hP.p (by decide)), xg_pos (by omega), xg_pos (hP.p (by decide)), xg_pos (by omega), show ((ln : Int) + 0).toNat = ln by omega, hN, deed_e hP (by rw [a0]; exact hd) hd2 (by omega) hn, xb_some]
  have et : lnT ln (g 120) t = tK t 0 1 4 30 (fun i => if i = 0 then (ln : Int) - 7 else if i ≤ lnN ln then g 120 (i - 1) else -1) := by
    unfold lnT
    rw [if_neg (by omega), if_neg (by omega), if_neg (by omega), if_neg (by omega), if_neg (by omega), if_neg (by omega), if_neg (by omega), if_neg (by omega), if_neg (by omega)]
  have hne : ∀ a j, ¬ ((a = 101 ∧ j = d) ∨ (a = 102 ∧ 3 * d ≤ j ∧ j < 3 * d + 3) ∨ (a = 100 ∧ j = 0)) → (zup (zup (zup (zup (zup g 101 d ((ln : Int) - 7)) 102 (3 * d + 0) (if (0 : Int) < (lnN ln : Int) then g 120 0 else -1)) 102 (3 * d + 1) (if (1 : Int) < (lnN ln : Int) then g 120 1 else -1)) 102 (3 * d + 2) (if (2 : Int) < (lnN ln : Int) then g 120 2 else -1)) 100 0 ((d : Int) + 1)) a j = g a j := fun a j w => by rw [zup_ne (by omega), zup_ne (by omega), zup_ne (by omega), zup_ne (by omega), zup_ne (by omega)]
  rw [et]
  generalize hv : (fun i : Nat => if i = 0 then (ln : Int) - 7 else if i ≤ lnN ln then g 120 (i - 1) else -1) = v
  have tne : ∀ i, ¬ (i = 0 ∨ (1 + 4 * d ≤ i ∧ i < 1 + 4 * d + 4)) → tK t 0 1 4 30 v i = t i := fun i w => tK_old (by omega) (by rw [hd, Int.toNat_natCast]; omega)
  refine ⟨_, rfl, ⟨by rw [zup_at, tK_c1 hM, hd], fun k hk => ?_⟩, fun a j w => hne a j (fun w2 => w (by unfold cZ; omega))⟩
  rw [tK_c1 hM, hd] at hk
  by_cases w : k = d
  · subst w
    have r0 := tK_new (t := t) (ct := 0) (from_ := 1) (wide := 4) (most := 30) (r := 0) (v := v) hM (by decide) (by decide)
    have r1 := tK_new (t := t) (ct := 0) (from_ := 1) (wide := 4) (most := 30) (r := 1) (v := v) hM (by decide) (by decide)
    have r2 := tK_new (t := t) (ct := 0) (from_ := 1) (wide := 4) (most := 30) (r := 2) (v := v) hM (by decide) (by decide)
    have r3 := tK_new (t := t) (ct := 0) (from_ := 1) (wide := 4) (most := 30) (r := 3) (v := v) hM (by decide) (by decide)
    rw [hd, Int.toNat_natCast] at r0 r1 r2 r3
    rw [show 1 + 4 * k + 1 = 2 + 4 * k by omega] at r1
    rw [show 1 + 4 * k + 2 = 3 + 4 * k by omega] at r2
    rw [show 1 + 4 * k + 3 = 4 + 4 * k by omega] at r3
    rw [Nat.add_zero] at r0
    rw [r0, r1, r2, r3, ← hv]
    simp only
    refine ⟨by rw [zup_ne (by omega), zup_ne (by omega), zup_ne (by omega), zup_ne (by omega), zup_eq (by omega) rfl]; rfl, ?_, ?_, ?_⟩
    · rw [zup_ne (by omega), zup_ne (by omega), zup_ne (by omega), zup_eq (by omega) (by omega), if_neg (show ¬ (1 : Nat) = 0 by decide)]
      by_cases c : 1 ≤ lnN ln
      · rw [if_pos (show (0 : Int) < (lnN ln : Int) by omega), if_pos c]
      · rw [if_neg (show ¬ (0 : Int) < (lnN ln : Int) by omega), if_neg c]
    · rw [zup_ne (by omega), zup_ne (by omega), zup_eq (by omega) (by omega), if_neg (show ¬ (2 : Nat) = 0 by decide)]
      by_cases c : 2 ≤ lnN ln
      · rw [if_pos (show (1 : Int) < (lnN ln : Int) by omega), if_pos c]
      · rw [if_neg (show ¬ (1 : Int) < (lnN ln : Int) by omega), if_neg c]
    · rw [zup_ne (by omega), zup_eq (by omega) (by omega), if_neg (show ¬ (3 : Nat) = 0 by decide)]
      by_cases c : 3 ≤ lnN ln
      · rw [if_pos (show (2 : Int) < (lnN ln : Int) by omega), if_pos c]
      · rw [if_neg (show ¬ (2 : Int) < (lnN ln : Int) by omega), if_neg c]
  · rw [hne _ _ (by omega), hne _ _ (by omega), hne _ _ (by omega), hne _ _ (by omega), tne _ (by omega), tne _ (by omega), tne _ (by omega), tne _ (by omega)]
    exact a1 k (by omega)
/-- takeLine: a line without a fault -/
theorem take_e {n of ln : Nat} {t : Nat → Int} {g : yH} (hof : of ≤ 2) (hi : lnIn of ln) (hP : cP g) (hr : cR of t g) (hW : tWf of t) (hM : ¬ (lnAdds ln ∧ t (lnC ln) = lnM ln)) (hB : ∀ i, i < lnN ln → ¬ lnB ln (g 120) i) (hn : 10 ≤ n) : ∃ h2, f_X4_takeLine n [80, (ln : Int)] g = some (0, h2) ∧ cR of (lnT ln (g 120) t) h2 ∧ ∀ a j, ¬ cZ a j → h2 a j = g a j := by
  rcases lnIn_j hof hi with ⟨rfl, hl⟩ | ⟨rfl, hl⟩ | ⟨rfl, hl⟩
  · have hS := hr.1 rfl
    have hw := hW.1 rfl
    have fin : (∃ h2, f_X4_takeLine n [80, (ln : Int)] g = some (0, h2) ∧ cS 90 (lnT ln (g 120) t) h2 ∧ ∀ a j, ¬ cZ a j → h2 a j = g a j) → ∃ h2, f_X4_takeLine n [80, (ln : Int)] g = some (0, h2) ∧ cR 0 (lnT ln (g 120) t) h2 ∧ ∀ a j, ¬ cZ a j → h2 a j = g a j := fun ⟨h2, e1, e2, e3⟩ => ⟨h2, e1, ⟨fun _ => e2, fun e => absurd e (by decide), fun e => absurd e (by decide)⟩, e3⟩
    rcases (show ln = 0 ∨ ln = 1 ∨ ln = 2 ∨ ln = 3 ∨ ln = 4 ∨ ln = 5 ∨ ln = 6 by omega) with rfl | rfl | rfl | rfl | rfl | rfl | rfl
    · exact fin (take_0 hP hS hw hB)
    · exact fin (take_1 hP hS hw hB)
    · exact fin (take_2 hP hS hw hB)
    · exact fin (take_3 hP hS hw hB)
    · exact fin (take_4 hP hS hw (fun e => hM ⟨Or.inl rfl, e⟩) hB)
    · exact fin (take_5 hP hS hw (fun e => hM ⟨Or.inr (Or.inl rfl), e⟩) hB)
    · exact fin (take_6 hP hS hw hB)
  · obtain ⟨h2, e1, e2, e3⟩ := take_d (n := n) hP (hr.2.1 rfl) (hW.2.1 rfl) (fun e => hM ⟨Or.inr (Or.inr hl.1), by
      unfold lnC lnM
      rw [if_neg (by omega), if_neg (by omega), if_neg (by omega), if_neg (by omega), if_neg (by omega), if_neg (by omega), if_neg (by omega)]
      exact e⟩) hl (by omega)
    exact ⟨h2, e1, ⟨fun e => absurd e (by decide), fun _ => e2, fun e => absurd e (by decide)⟩, e3⟩
  · have fin : (∃ h2, f_X4_takeLine n [80, (ln : Int)] g = some (0, h2) ∧ cQ 110 (lnT ln (g 120) t) h2 ∧ ∀ a j, ¬ cZ a j → h2 a j = g a j) → ∃ h2, f_X4_takeLine n [80, (ln : Int)] g = some (0, h2) ∧ cR 2 (lnT ln (g 120) t) h2 ∧ ∀ a j, ¬ cZ a j → h2 a j = g a j := fun ⟨h2, e1, e2, e3⟩ => ⟨h2, e1, ⟨fun e => absurd e (by decide), fun e => absurd e (by decide), fun _ => e2⟩, e3⟩
    rcases (show ln = 13 ∨ ln = 14 by omega) with rfl | rfl
    · exact fin (take_13 hP (hr.2.2 rfl) (hW.2.2 rfl) (fun e => hM ⟨Or.inr (Or.inr (by decide)), e⟩) hB)
    · exact fin (take_14 hP (hr.2.2 rfl) (hW.2.2 rfl) (fun e => hM ⟨Or.inr (Or.inr (by decide)), e⟩) hB)
