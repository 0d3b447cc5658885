/-! how many bits -/
def bcn (x : Int) : Int := x % 2 + x / 2 % 2 + x / 4 % 2 + x / 8 % 2 + x / 16 % 2 + x / 32 % 2
theorem bcF : ∀ x : Fin 64, (-2147483648 ≤ (x.val : Int) - (yari 7 (yushr (x.val : Int) 1) 1431655765) ∧ (x.val : Int) - (yari 7 (yushr (x.val : Int) 1) 1431655765) ≤ 2147483647) ∧ (-2147483648 ≤ (yari 7 ((x.val : Int) - (yari 7 (yushr (x.val : Int) 1) 1431655765)) 858993459) + (yari 7 (yushr ((x.val : Int) - (yari 7 (yushr (x.val : Int) 1) 1431655765)) 2) 858993459) ∧ (yari 7 ((x.val : Int) - (yari 7 (yushr (x.val : Int) 1) 1431655765)) 858993459) + (yari 7 (yushr ((x.val : Int) - (yari 7 (yushr (x.val : Int) 1) 1431655765)) 2) 858993459) ≤ 2147483647) ∧ (-2147483648 ≤ ((yari 7 ((x.val : Int) - (yari 7 (yushr (x.val : Int) 1) 1431655765)) 858993459) + (yari 7 (yushr ((x.val : Int) - (yari 7 (yushr (x.val : Int) 1) 1431655765)) 2) 858993459)) + (yushr ((yari 7 ((x.val : Int) - (yari 7 (yushr (x.val : Int) 1) 1431655765)) 858993459) + (yari 7 (yushr ((x.val : Int) - (yari 7 (yushr (x.val : Int) 1) 1431655765)) 2) 858993459)) 4) ∧ ((yari 7 ((x.val : Int) - (yari 7 (yushr (x.val : Int) 1) 1431655765)) 858993459) + (yari 7 (yushr ((x.val : Int) - (yari 7 (yushr (x.val : Int) 1) 1431655765)) 2) 858993459)) + (yushr ((yari 7 ((x.val : Int) - (yari 7 (yushr (x.val : Int) 1) 1431655765)) 858993459) + (yari 7 (yushr ((x.val : Int) - (yari 7 (yushr (x.val : Int) 1) 1431655765)) 2) 858993459)) 4) ≤ 2147483647) ∧ (-2147483648 ≤ (yari 7 (((yari 7 ((x.val : Int) - (yari 7 (yushr (x.val : Int) 1) 1431655765)) 858993459) + (yari 7 (yushr ((x.val : Int) - (yari 7 (yushr (x.val : Int) 1) 1431655765)) 2) 858993459)) + (yushr ((yari 7 ((x.val : Int) - (yari 7 (yushr (x.val : Int) 1) 1431655765)) 858993459) + (yari 7 (yushr ((x.val : Int) - (yari 7 (yushr (x.val : Int) 1) 1431655765)) 2) 858993459)) 4)) 252645135) + (yushr (yari 7 (((yari 7 ((x.val : Int) - (yari 7 (yushr (x.val : Int) 1) 1431655765)) 858993459) + (yari 7 (yushr ((x.val : Int) - (yari 7 (yushr (x.val : Int) 1) 1431655765)) 2) 858993459)) + (yushr ((yari 7 ((x.val : Int) - (yari 7 (yushr (x.val : Int) 1) 1431655765)) 858993459) + (yari 7 (yushr ((x.val : Int) - (yari 7 (yushr (x.val : Int) 1) 1431655765)) 2) 858993459)) 4)) 252645135) 8) ∧ (yari 7 (((yari 7 ((x.val : Int) - (yari 7 (yushr (x.val : Int) 1) 1431655765)) 858993459) + (yari 7 (yushr ((x.val : Int) - (yari 7 (yushr (x.val : Int) 1) 1431655765)) 2) 858993459)) + (yushr ((yari 7 ((x.val : Int) - (yari 7 (yushr (x.val : Int) 1) 1431655765)) 858993459) + (yari 7 (yushr ((x.val : Int) - (yari 7 (yushr (x.val : Int) 1) 1431655765)) 2) 858993459)) 4)) 252645135) + (yushr (yari 7 (((yari 7 ((x.val : Int) - (yari 7 (yushr (x.val : Int) 1) 1431655765)) 858993459) + (yari 7 (yushr ((x.val : Int) - (yari 7 (yushr (x.val : Int) 1) 1431655765)) 2) 858993459)) + (yushr ((yari 7 ((x.val : Int) - (yari 7 (yushr (x.val : Int) 1) 1431655765)) 858993459) + (yari 7 (yushr ((x.val : Int) - (yari 7 (yushr (x.val : Int) 1) 1431655765)) 2) 858993459)) 4)) 252645135) 8) ≤ 2147483647) ∧ (-2147483648 ≤ ((yari 7 (((yari 7 ((x.val : Int) - (yari 7 (yushr (x.val : Int) 1) 1431655765)) 858993459) + (yari 7 (yushr ((x.val : Int) - (yari 7 (yushr (x.val : Int) 1) 1431655765)) 2) 858993459)) + (yushr ((yari 7 ((x.val : Int) - (yari 7 (yushr (x.val : Int) 1) 1431655765)) 858993459) + (yari 7 (yushr ((x.val : Int) - (yari 7 (yushr (x.val : Int) 1) 1431655765)) 2) 858993459)) 4)) 252645135) + (yushr (yari 7 (((yari 7 ((x.val : Int) - (yari 7 (yushr (x.val : Int) 1) 1431655765)) 858993459) + (yari 7 (yushr ((x.val : Int) - (yari 7 (yushr (x.val : Int) 1) 1431655765)) 2) 858993459)) + (yushr ((yari 7 ((x.val : Int) - (yari 7 (yushr (x.val : Int) 1) 1431655765)) 858993459) + (yari 7 (yushr ((x.val : Int) - (yari 7 (yushr (x.val : Int) 1) 1431655765)) 2) 858993459)) 4)) 252645135) 8)) + (yushr ((yari 7 (((yari 7 ((x.val : Int) - (yari 7 (yushr (x.val : Int) 1) 1431655765)) 858993459) + (yari 7 (yushr ((x.val : Int) - (yari 7 (yushr (x.val : Int) 1) 1431655765)) 2) 858993459)) + (yushr ((yari 7 ((x.val : Int) - (yari 7 (yushr (x.val : Int) 1) 1431655765)) 858993459) + (yari 7 (yushr ((x.val : Int) - (yari 7 (yushr (x.val : Int) 1) 1431655765)) 2) 858993459)) 4)) 252645135) + (yushr (yari 7 (((yari 7 ((x.val : Int) - (yari 7 (yushr (x.val : Int) 1) 1431655765)) 858993459) + (yari 7 (yushr ((x.val : Int) - (yari 7 (yushr (x.val : Int) 1) 1431655765)) 2) 858993459)) + (yushr ((yari 7 ((x.val : Int) - (yari 7 (yushr (x.val : Int) 1) 1431655765)) 858993459) + (yari 7 (yushr ((x.val : Int) - (yari 7 (yushr (x.val : Int) 1) 1431655765)) 2) 858993459)) 4)) 252645135) 8)) 16) ∧ ((yari 7 (((yari 7 ((x.val : Int) - (yari 7 (yushr (x.val : Int) 1) 1431655765)) 858993459) + (yari 7 (yushr ((x.val : Int) - (yari 7 (yushr (x.val : Int) 1) 1431655765)) 2) 858993459)) + (yushr ((yari 7 ((x.val : Int) - (yari 7 (yushr (x.val : Int) 1) 1431655765)) 858993459) + (yari 7 (yushr ((x.val : Int) - (yari 7 (yushr (x.val : Int) 1) 1431655765)) 2) 858993459)) 4)) 252645135) + (yushr (yari 7 (((yari 7 ((x.val : Int) - (yari 7 (yushr (x.val : Int) 1) 1431655765)) 858993459) + (yari 7 (yushr ((x.val : Int) - (yari 7 (yushr (x.val : Int) 1) 1431655765)) 2) 858993459)) + (yushr ((yari 7 ((x.val : Int) - (yari 7 (yushr (x.val : Int) 1) 1431655765)) 858993459) + (yari 7 (yushr ((x.val : Int) - (yari 7 (yushr (x.val : Int) 1) 1431655765)) 2) 858993459)) 4)) 252645135) 8)) + (yushr ((yari 7 (((yari 7 ((x.val : Int) - (yari 7 (yushr (x.val : Int) 1) 1431655765)) 858993459) + (yari 7 (yushr ((x.val : Int) - (yari 7 (yushr (x.val : Int) 1) 1431655765)) 2) 858993459)) + (yushr ((yari 7 ((x.val : Int) - (yari 7 (yushr (x.val : Int) 1) 1431655765)) 858993459) + (yari 7 (yushr ((x.val : Int) - (yari 7 (yushr (x.val : Int) 1) 1431655765)) 2) 858993459)) 4)) 252645135) + (yushr (yari 7 (((yari 7 ((x.val : Int) - (yari 7 (yushr (x.val : Int) 1) 1431655765)) 858993459) + (yari 7 (yushr ((x.val : Int) - (yari 7 (yushr (x.val : Int) 1) 1431655765)) 2) 858993459)) + (yushr ((yari 7 ((x.val : Int) - (yari 7 (yushr (x.val : Int) 1) 1431655765)) 858993459) + (yari 7 (yushr ((x.val : Int) - (yari 7 (yushr (x.val : Int) 1) 1431655765)) 2) 858993459)) 4)) 252645135) 8)) 16) ≤ 2147483647) ∧ (yari 7 (((yari 7 (((yari 7 ((x.val : Int) - (yari 7 (yushr (x.val : Int) 1) 1431655765)) 858993459) + (yari 7 (yushr ((x.val : Int) - (yari 7 (yushr (x.val : Int) 1) 1431655765)) 2) 858993459)) + (yushr ((yari 7 ((x.val : Int) - (yari 7 (yushr (x.val : Int) 1) 1431655765)) 858993459) + (yari 7 (yushr ((x.val : Int) - (yari 7 (yushr (x.val : Int) 1) 1431655765)) 2) 858993459)) 4)) 252645135) + (yushr (yari 7 (((yari 7 ((x.val : Int) - (yari 7 (yushr (x.val : Int) 1) 1431655765)) 858993459) + (yari 7 (yushr ((x.val : Int) - (yari 7 (yushr (x.val : Int) 1) 1431655765)) 2) 858993459)) + (yushr ((yari 7 ((x.val : Int) - (yari 7 (yushr (x.val : Int) 1) 1431655765)) 858993459) + (yari 7 (yushr ((x.val : Int) - (yari 7 (yushr (x.val : Int) 1) 1431655765)) 2) 858993459)) 4)) 252645135) 8)) + (yushr ((yari 7 (((yari 7 ((x.val : Int) - (yari 7 (yushr (x.val : Int) 1) 1431655765)) 858993459) + (yari 7 (yushr ((x.val : Int) - (yari 7 (yushr (x.val : Int) 1) 1431655765)) 2) 858993459)) + (yushr ((yari 7 ((x.val : Int) - (yari 7 (yushr (x.val : Int) 1) 1431655765)) 858993459) + (yari 7 (yushr ((x.val : Int) - (yari 7 (yushr (x.val : Int) 1) 1431655765)) 2) 858993459)) 4)) 252645135) + (yushr (yari 7 (((yari 7 ((x.val : Int) - (yari 7 (yushr (x.val : Int) 1) 1431655765)) 858993459) + (yari 7 (yushr ((x.val : Int) - (yari 7 (yushr (x.val : Int) 1) 1431655765)) 2) 858993459)) + (yushr ((yari 7 ((x.val : Int) - (yari 7 (yushr (x.val : Int) 1) 1431655765)) 858993459) + (yari 7 (yushr ((x.val : Int) - (yari 7 (yushr (x.val : Int) 1) 1431655765)) 2) 858993459)) 4)) 252645135) 8)) 16)) 63) = bcn (x.val : Int) := by decide +kernel
theorem bc_e {n : Nat} {x : Int} {h : yH} (hx : 0 ≤ x ∧ x ≤ 63) : f_J6_bitCount_0f7a4 n [x] h = some (bcn x, h) := by
  obtain ⟨k, rfl⟩ : ∃ k : Fin 64, x = (k.val : Int) := ⟨⟨x.toNat, by omega⟩, by simp only; omega⟩
  obtain ⟨g0, g1, g2, g3, g4, v⟩ := bcF k
  rw [e_J6_bitCount_0f7a4, xg_pos g0, xg_pos g1, xg_pos g2, xg_pos g3, xg_pos g4, v]
theorem isInF : ∀ x : Fin 64, ∀ k : Fin 16, yari 7 (yari 6 (x.val : Int) (k.val : Int)) 1 = (x.val : Int) / 2 ^ k.val % 2 := by decide +kernel
theorem isIn_e {n : Nat} {x : Int} {k : Nat} {h : yH} (hx : 0 ≤ x ∧ x ≤ 63) (hk : k < 16) : f_X12_isIn n [x, (k : Int)] h = some (x / 2 ^ k % 2, h) := by
  obtain ⟨d, rfl⟩ : ∃ d : Fin 64, x = (d.val : Int) := ⟨⟨x.toNat, by omega⟩, by simp only; omega⟩
  rw [e_X12_isIn, isInF d ⟨k, hk⟩]
  simp only
  have h2 : ∀ z : Int, z % 2 = 0 ∨ z % 2 = 1 := fun z => by omega
  rcases h2 ((d.val : Int) / 2 ^ k) with e | e
  · rw [e, if_neg (by decide)]
  · rw [e, if_pos rfl]
def bsm (x : Int) : Nat → Nat → Int
  | 0, _ => 0
  | m + 1, k => x / 2 ^ k % 2 + bsm x m (k + 1)
theorem bsmF : ∀ x : Fin 64, bsm (x.val : Int) 16 0 = bcn (x.val : Int) := by decide +kernel
theorem ones_l {x : Int} {h : yH} (hx : 0 ≤ x ∧ x ≤ 63) : ∀ (m k n : Nat) (a : Int), m + k = 16 → m < n → 0 ≤ a ∧ a ≤ k → xl_X12_ones n 4 [x, a, (k : Int)] h = some (a + bsm x m k, h) := by
  intro m
  induction m with
  | zero =>
    intro k n a e1 e2 e3
    obtain ⟨n, rfl⟩ : ∃ n', n = n' + 1 := ⟨n - 1, by omega⟩
    rw [e_X12_ones_4, if_neg (by omega)]
    show _ = some (a + 0, h)
    rw [Int.add_zero]
  | succ m ih =>
    intro k n a e1 e2 e3
    obtain ⟨n, rfl⟩ : ∃ n', n = n' + 1 := ⟨n - 1, by omega⟩
    rw [e_X12_ones_4, if_pos (by omega), isIn_e hx (by omega), xb_some]
    show _ = some (a + (x / 2 ^ k % 2 + bsm x m (k + 1)), h)
    have h2 : ∀ z : Int, z % 2 = 0 ∨ z % 2 = 1 := fun z => by omega
    rcases h2 (x / 2 ^ k) with e | e
    · rw [e, if_pos rfl, xg_pos (by omega), xg_pos (by omega), show (k : Int) + 1 = ((k + 1 : Nat) : Int) by omega, ih (k + 1) n _ (by omega) (by omega) (by omega)]
      congr 2
      omega
    · rw [e, if_neg (by decide), xg_pos (by omega), xg_pos (by omega), show (k : Int) + 1 = ((k + 1 : Nat) : Int) by omega, ih (k + 1) n _ (by omega) (by omega) (by omega)]
      congr 2
      omega
theorem bcn_b {x : Int} : 0 ≤ bcn x ∧ bcn x ≤ 6 := by
  unfold bcn
  omega
theorem ones_e {n : Nat} {x : Int} {h : yH} (hn : 17 ≤ n) (hx : 0 ≤ x ∧ x ≤ 63) : f_X12_ones n [x] h = some (bcn x, h) := by
  rw [e_X12_ones]
  have := ones_l (h := h) hx 16 0 n 0 rfl (by omega) (by omega)
  rw [show ((0 : Nat) : Int) = 0 from rfl] at this
  rw [this, Int.zero_add]
  have q := bsmF ⟨x.toNat, by omega⟩
  simp only at q
  rw [show ((x.toNat : Nat) : Int) = x by omega] at q
  rw [q]
