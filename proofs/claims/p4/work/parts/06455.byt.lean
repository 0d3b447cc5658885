/-! the same bytes -/
theorem by_bv (a : BitVec 32) (s : Nat) (hs : s ≤ 24) : (a >>> s).setWidth 8 = (a.sshiftRight s).setWidth 8 := by
  apply BitVec.eq_of_getLsbD_eq
  intro i hi
  simp only [BitVec.getLsbD_setWidth, BitVec.getLsbD_ushiftRight, BitVec.getLsbD_sshiftRight]
  have h1 : decide (i < 8) = true := by simpa using hi
  have h2 : ¬ 32 ≤ i := by omega
  have h3 : s + i < 32 := by omega
  simp [h1, h2, h3]
theorem yi2b_b (x : Int) : -128 ≤ yi2b x ∧ yi2b x ≤ 127 := by
  unfold yi2b
  have h1 := Int8.le_toInt (Int32.ofInt x).toInt8
  have h2 := Int8.toInt_lt (Int32.ofInt x).toInt8
  rw [Int8.toInt_toInt32]
  omega
