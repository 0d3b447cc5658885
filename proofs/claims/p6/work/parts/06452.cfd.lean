/-! the class: the tape is fed -/
/-- a byte of a number -/
def cBy (x : Int) (i : Nat) : Int := yi2b (yushr x (24 - 8 * (i : Int)))
theorem put_l {x : Int} {m : Nat} {h : yH} (hP : cP h) (h4 : h 4 1 = (m : Int)) (hm : m + 4 ≤ 600) (hb : ∀ i, i < 4 → -128 ≤ cBy x i ∧ cBy x i ≤ 127) : ∀ (c i n : Nat) (g : yH), 4 - i = c → i ≤ 4 → c < n → cP g → g 4 1 = (m : Int) + (i : Int) → (∀ a j, ¬ (a = 4 ∧ j = 1) → g a j = if a = 5 ∧ m ≤ j ∧ j < m + i then cBy x (j - m) else h a j) →
    ∃ h2, xl_X8_put n 3 [4, x, 24 - 8 * (i : Int)] g = some (0, h2) ∧ cP h2 ∧ h2 4 1 = (m : Int) + 4 ∧ ∀ a j, ¬ (a = 4 ∧ j = 1) → h2 a j = if a = 5 ∧ m ≤ j ∧ j < m + 4 then cBy x (j - m) else h a j := by
  intro c
  induction c with
  | zero =>
    intro i n g e1 e2 e3 gP g4 gh
    obtain ⟨n, rfl⟩ : ∃ n', n = n' + 1 := ⟨n - 1, by omega⟩
    obtain rfl : i = 4 := by omega
    rw [e_X8_put_3, if_pos (by omega)]
    exact ⟨g, rfl, gP, g4, gh⟩
  | succ c ih =>
    intro i n g e1 e2 e3 gP g4 gh
    obtain ⟨n, rfl⟩ : ∃ n', n = n' + 1 := ⟨n - 1, by omega⟩
    have hbi := hb i (by omega)
    have cf5 : ∀ j, cF 5 j = false := fun j => by
      unfold cF
      rw [List.any_eq_false]
      intro p hp
      have : ∀ p ∈ cPL, p.1 ≠ 5 := by decide +kernel
      simp [this p hp]
    rw [e_X8_put_3, if_neg (by omega), g4, if_pos (by omega), xg_pos (gP.p (by decide)), xg_pos (by omega)]
    rw [show yi2b (yushr x (24 - 8 * (i : Int))) = cBy x i from rfl, xg_pos hbi, xg_pos (by omega), xg_pos (by omega), xg_pos (by omega), show ((m : Int) + (i : Int)).toNat = m + i by omega, show 24 - 8 * (i : Int) + -8 = 24 - 8 * ((i + 1 : Nat) : Int) by omega]
    refine ih (i + 1) n _ (by omega) (by omega) (by omega) ((gP.up (cf5 _)).up (by decide)) (by rw [zup_at]; omega) (fun a j w => ?_)
    rw [zup_ne w]
    by_cases c1 : a = 5 ∧ j = m + i
    · rw [c1.1, c1.2, zup_at, if_pos (by omega), show m + i - m = i by omega]
    · rw [zup_ne c1, gh a j w]
      by_cases c2 : a = 5 ∧ m ≤ j ∧ j < m + i
      · rw [if_pos c2, if_pos (by omega)]
      · rw [if_neg c2, if_neg (by omega)]
theorem put_e {n m : Nat} {x : Int} {h : yH} (hn : 6 ≤ n) (hP : cP h) (h4 : h 4 1 = (m : Int)) (hm : m + 4 ≤ 600) (hb : ∀ i, i < 4 → -128 ≤ cBy x i ∧ cBy x i ≤ 127) : ∃ h2, f_X8_put n [4, x] h = some (0, h2) ∧ cP h2 ∧ h2 4 1 = (m : Int) + 4 ∧ ∀ a j, ¬ (a = 4 ∧ j = 1) → h2 a j = if a = 5 ∧ m ≤ j ∧ j < m + 4 then cBy x (j - m) else h a j := by
  rw [e_X8_put]
  exact put_l hP h4 hm hb 4 0 n h rfl (by omega) (by omega) hP (by rw [h4]; omega) (fun a j w => by rw [if_neg (by omega)])
