/-! the reference: the tape is fed -/
def rBy (x : Int) (i : Nat) : Int := yi2b (yari 6 x (24 - 8 * (i : Int)))
theorem four_l {x : Int} {m : Nat} {h : yH} (h4 : h 1 0 = (m : Int)) (hm : m + 4 ≤ 600) (hb : ∀ i, i < 4 → -128 ≤ rBy x i ∧ rBy x i ≤ 127) : ∀ (c i n : Nat) (g : yH), 4 - i = c → i ≤ 4 → c < n → rP g → g 1 0 = (m : Int) + (i : Int) → (∀ a j, ¬ (a = 1 ∧ j = 0) → g a j = if a = 0 ∧ m ≤ j ∧ j < m + i then rBy x (j - m) else h a j) →
    ∃ h2, xl_X12_four n 3 [35, x, 24 - 8 * (i : Int)] g = some (0, h2) ∧ rP h2 ∧ h2 1 0 = (m : Int) + 4 ∧ ∀ a j, ¬ (a = 1 ∧ j = 0) → h2 a j = if a = 0 ∧ m ≤ j ∧ j < m + 4 then rBy x (j - m) else h a j := by
  intro c
  induction c with
  | zero =>
    intro i n g e1 e2 e3 gP g4 gh
    obtain ⟨n, rfl⟩ : ∃ n', n = n' + 1 := ⟨n - 1, by omega⟩
    obtain rfl : i = 4 := by omega
    rw [e_X12_four_3, if_pos (by omega)]
    exact ⟨g, rfl, gP, g4, gh⟩
  | succ c ih =>
    intro i n g e1 e2 e3 gP g4 gh
    obtain ⟨n, rfl⟩ : ∃ n', n = n' + 1 := ⟨n - 1, by omega⟩
    have hbi := hb i (by omega)
    rw [e_X12_four_3, if_neg (by omega), xg_pos gP.1, xg_pos gP.2.1, g4, xg_pos (by omega)]
    rw [show yi2b (yari 6 x (24 - 8 * (i : Int))) = rBy x i from rfl, xg_pos hbi, xg_pos gP.2.1, xg_pos (by omega), xg_pos (by omega), xg_pos (by omega), show ((m : Int) + (i : Int)).toNat = m + i by omega, show 24 - 8 * (i : Int) + -8 = 24 - 8 * ((i + 1 : Nat) : Int) by omega]
    refine ih (i + 1) n _ (by omega) (by omega) (by omega) (gP.fr (fun j hj => by rw [zup_ne (by omega), zup_ne (by omega)])) (by rw [zup_at]; omega) (fun a j w => ?_)
    rw [zup_ne w]
    by_cases c1 : a = 0 ∧ j = m + i
    · rw [c1.1, c1.2, zup_at, if_pos (by omega), show m + i - m = i by omega]
    · rw [zup_ne c1, gh a j w]
      by_cases c2 : a = 0 ∧ m ≤ j ∧ j < m + i
      · rw [if_pos c2, if_pos (by omega)]
      · rw [if_neg c2, if_neg (by omega)]
theorem four_e {n m : Nat} {x : Int} {h : yH} (hn : 6 ≤ n) (hP : rP h) (h4 : h 1 0 = (m : Int)) (hm : m + 4 ≤ 600) (hb : ∀ i, i < 4 → -128 ≤ rBy x i ∧ rBy x i ≤ 127) : ∃ h2, f_X12_four n [35, x] h = some (0, h2) ∧ rP h2 ∧ h2 1 0 = (m : Int) + 4 ∧ ∀ a j, ¬ (a = 1 ∧ j = 0) → h2 a j = if a = 0 ∧ m ≤ j ∧ j < m + 4 then rBy x (j - m) else h a j := by
  rw [e_X12_four]
  exact four_l h4 hm hb 4 0 n h rfl (by omega) (by omega) hP (by rw [h4]; omega) (fun a j w => by rw [if_neg (by omega)])
