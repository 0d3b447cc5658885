/-! the same bytes -/
theorem by_bv (a : BitVec 32) (s : Nat) (hs : s ≤ 24) : (a >>> s).setWidth 8 = (a.sshiftRight s).setWidth 8 := by
  apply BitVec.eq_of_getLsbD_eq
  intro i hi
  simp only [BitVec.getLsbD_setWidth, BitVec.getLsbD_ushiftRight, BitVec.getLsbD_sshiftRight]
  have h1 : decide (i < 8) = true := by simpa using hi
  have h2 : ¬ 32 ≤ i := by omega
  have h3 : s + i < 32 := by omega
  simp [h1, h2, h3]
theorem by_bx (a : BitVec 32) (s : Nat) (hs : s ≤ 24) : (a >>> s).signExtend 8 = (a.sshiftRight s).signExtend 8 := by
  rw [BitVec.signExtend_eq_setWidth_of_le _ (by decide), BitVec.signExtend_eq_setWidth_of_le _ (by decide)]
  exact by_bv a s hs
theorem yi2b_b (x : Int) : -128 ≤ yi2b x ∧ yi2b x ≤ 127 := by
  unfold yi2b
  have h1 := Int8.le_toInt (Int32.ofInt x).toInt8
  have h2 := Int8.toInt_lt (Int32.ofInt x).toInt8
  rw [Int8.toInt_toInt32]
  omega
theorem by_eq {x : Int} {i : Nat} (hi : i < 4) : cBy x i = rBy x i := by
  unfold cBy rBy yi2b yushr yari
  rw [Int32.ofInt_toInt, Int32.ofInt_toInt]
  congr 2
  apply Int8.toBitVec_inj.mp
  rcases (show i = 0 ∨ i = 1 ∨ i = 2 ∨ i = 3 by omega) with rfl | rfl | rfl | rfl
  · have e1 : ((Int32.ofInt (24 - 8 * ((0 : Nat) : Int))).toUInt32 &&& Int32.toUInt32 31) = 24 := by decide
    have e2 : zsem 6 (Int32.ofInt x) (Int32.ofInt (24 - 8 * ((0 : Nat) : Int))) = (Int32.ofInt x) >>> (24 : Int32) := congrArg (fun z => Int32.ofInt x >>> z) (show (Int32.ofInt (24 - 8 * ((0 : Nat) : Int)) &&& 31) = 24 by decide)
    rw [e1, e2]
    exact by_bx (Int32.ofInt x).toBitVec 24 (by decide)
  · have e1 : ((Int32.ofInt (24 - 8 * ((1 : Nat) : Int))).toUInt32 &&& Int32.toUInt32 31) = 16 := by decide
    have e2 : zsem 6 (Int32.ofInt x) (Int32.ofInt (24 - 8 * ((1 : Nat) : Int))) = (Int32.ofInt x) >>> (16 : Int32) := congrArg (fun z => Int32.ofInt x >>> z) (show (Int32.ofInt (24 - 8 * ((1 : Nat) : Int)) &&& 31) = 16 by decide)
    rw [e1, e2]
    exact by_bx (Int32.ofInt x).toBitVec 16 (by decide)
  · have e1 : ((Int32.ofInt (24 - 8 * ((2 : Nat) : Int))).toUInt32 &&& Int32.toUInt32 31) = 8 := by decide
    have e2 : zsem 6 (Int32.ofInt x) (Int32.ofInt (24 - 8 * ((2 : Nat) : Int))) = (Int32.ofInt x) >>> (8 : Int32) := congrArg (fun z => Int32.ofInt x >>> z) (show (Int32.ofInt (24 - 8 * ((2 : Nat) : Int)) &&& 31) = 8 by decide)
    rw [e1, e2]
    exact by_bx (Int32.ofInt x).toBitVec 8 (by decide)
  · have e1 : ((Int32.ofInt (24 - 8 * ((3 : Nat) : Int))).toUInt32 &&& Int32.toUInt32 31) = 0 := by decide
    have e2 : zsem 6 (Int32.ofInt x) (Int32.ofInt (24 - 8 * ((3 : Nat) : Int))) = (Int32.ofInt x) >>> (0 : Int32) := congrArg (fun z => Int32.ofInt x >>> z) (show (Int32.ofInt (24 - 8 * ((3 : Nat) : Int)) &&& 31) = 0 by decide)
    rw [e1, e2]
    exact by_bx (Int32.ofInt x).toBitVec 0 (by decide)
