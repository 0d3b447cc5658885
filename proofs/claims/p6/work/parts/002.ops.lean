/-! what the operations do to bounds -/
def ztop : zIV := (-2147483648, 2147483647)
def zin (q : zIV) : Bool := decide (-2147483648 ≤ q.1) && decide (q.2 ≤ 2147483647)
def zfit (q : zIV) : zIV := if zin q = true then q else ztop
theorem z_in {q : zIV} (h : zin q = true) : -2147483648 ≤ q.1 ∧ q.2 ≤ 2147483647 := by
  unfold zin at h
  simpa using h
theorem z_fit {q : zIV} {v : Int} {r : Int32} (h1 : q.1 ≤ v) (h2 : v ≤ q.2) (hr : -2147483648 ≤ v → v ≤ 2147483647 → r.toInt = v) : (zfit q).1 ≤ r.toInt ∧ r.toInt ≤ (zfit q).2 := by
  unfold zfit
  split
  · rename_i h
    have := z_in h
    rw [hr (by omega) (by omega)]
    exact ⟨h1, h2⟩
  · exact ⟨z_lo r, z_hi r⟩
theorem z_add {x y : Int32} (h1 : -2147483648 ≤ x.toInt + y.toInt) (h2 : x.toInt + y.toInt ≤ 2147483647) : (x + y).toInt = x.toInt + y.toInt := by
  rw [Int32.toInt_add]
  exact Int.bmod_eq_of_le (by omega) (by omega)
theorem z_sub {x y : Int32} (h1 : -2147483648 ≤ x.toInt - y.toInt) (h2 : x.toInt - y.toInt ≤ 2147483647) : (x - y).toInt = x.toInt - y.toInt := by
  rw [Int32.toInt_sub]
  exact Int.bmod_eq_of_le (by omega) (by omega)
theorem z_mul {x y : Int32} (h1 : -2147483648 ≤ x.toInt * y.toInt) (h2 : x.toInt * y.toInt ≤ 2147483647) : (x * y).toInt = x.toInt * y.toInt := by
  rw [Int32.toInt_mul]
  exact Int.bmod_eq_of_le (by omega) (by omega)
theorem z_neg {x : Int32} (h1 : -2147483648 ≤ -x.toInt) (h2 : -x.toInt ≤ 2147483647) : (-x).toInt = -x.toInt := by
  rw [Int32.toInt_neg]
  exact Int.bmod_eq_of_le (by omega) (by omega)
theorem z_mulb {x y a A b B : Int} (h1 : a ≤ x) (h2 : x ≤ A) (h3 : b ≤ y) (h4 : y ≤ B) : min (min (a * b) (a * B)) (min (A * b) (A * B)) ≤ x * y ∧ x * y ≤ max (max (a * b) (a * B)) (max (A * b) (A * B)) := by
  rcases Int.le_total 0 y with hy | hy
  · have e1 : a * y ≤ x * y := Int.mul_le_mul_of_nonneg_right h1 hy
    have e2 : x * y ≤ A * y := Int.mul_le_mul_of_nonneg_right h2 hy
    have e3 : min (a * b) (a * B) ≤ a * y := by
      rcases Int.le_total 0 a with ha | ha
      · have := Int.mul_le_mul_of_nonneg_left h3 ha; omega
      · have := Int.mul_le_mul_of_nonpos_left ha h4; omega
    have e4 : A * y ≤ max (A * b) (A * B) := by
      rcases Int.le_total 0 A with ha | ha
      · have := Int.mul_le_mul_of_nonneg_left h4 ha; omega
      · have := Int.mul_le_mul_of_nonpos_left ha h3; omega
    omega
  · have e1 : A * y ≤ x * y := Int.mul_le_mul_of_nonpos_right h2 hy
    have e2 : x * y ≤ a * y := Int.mul_le_mul_of_nonpos_right h1 hy
    have e3 : min (A * b) (A * B) ≤ A * y := by
      rcases Int.le_total 0 A with ha | ha
      · have := Int.mul_le_mul_of_nonneg_left h3 ha; omega
      · have := Int.mul_le_mul_of_nonpos_left ha h4; omega
    have e4 : a * y ≤ max (a * b) (a * B) := by
      rcases Int.le_total 0 a with ha | ha
      · have := Int.mul_le_mul_of_nonneg_left h4 ha; omega
      · have := Int.mul_le_mul_of_nonpos_left ha h3; omega
    omega
theorem z_div {x y : Int32} (hy : 1 ≤ y.toInt) : (x / y).toInt = x.toInt.tdiv y.toInt := by
  rw [Int32.toInt_div]
  have h1 := z_lo x
  have h2 := z_hi x
  have e : x.toInt.tdiv y.toInt ≤ max 0 x.toInt ∧ min 0 x.toInt ≤ x.toInt.tdiv y.toInt := by
    rcases Int.le_total 0 x.toInt with hx | hx
    · have a1 := Int.tdiv_nonneg hx (show (0 : Int) ≤ y.toInt by omega)
      have a2 := Int.tdiv_le_self y.toInt hx
      omega
    · have hn : 0 ≤ -x.toInt := by omega
      have a1 := Int.tdiv_nonneg hn (show (0 : Int) ≤ y.toInt by omega)
      have a2 := Int.tdiv_le_self y.toInt hn
      rw [Int.neg_tdiv] at a1 a2
      omega
  exact Int.bmod_eq_of_le (by omega) (by omega)
theorem z_nn {x : Int32} (h : 0 ≤ x.toInt) : x.toInt = (x.toBitVec.toNat : Int) := by
  have e : x.toInt = x.toBitVec.toInt := rfl
  rw [BitVec.toInt_eq_toNat_cond] at e
  have hx : x.toBitVec.toNat < 2 ^ 32 := x.toBitVec.isLt
  split at e <;> omega
theorem z_nb {x : Int32} (h : x.toBitVec.toNat < 2147483648) : x.toInt = (x.toBitVec.toNat : Int) := by
  have e : x.toInt = x.toBitVec.toInt := rfl
  rw [BitVec.toInt_eq_toNat_cond] at e
  split at e <;> omega
theorem z_and {x y : Int32} (h : 0 ≤ y.toInt) : 0 ≤ (x &&& y).toInt ∧ (x &&& y).toInt ≤ y.toInt := by
  have hy := z_nn h
  have h2 := z_hi y
  have e : (x &&& y).toBitVec.toNat ≤ y.toBitVec.toNat := by
    rw [Int32.toBitVec_and, BitVec.toNat_and]
    exact Nat.and_le_right
  have := z_nb (x := x &&& y) (by omega)
  omega
theorem z_andl {x y : Int32} (h : 0 ≤ x.toInt) : 0 ≤ (x &&& y).toInt ∧ (x &&& y).toInt ≤ x.toInt := by
  rw [Int32.and_comm]
  exact z_and h
/-- the least 2^k - 1 at or above a number -/
def zmask (n : Nat) : Nat := if n < 1 then 0 else if n < 2 then 1 else if n < 4 then 3 else if n < 8 then 7 else if n < 16 then 15 else if n < 32 then 31 else if n < 64 then 63 else if n < 128 then 127 else if n < 256 then 255 else if n < 512 then 511 else if n < 1024 then 1023 else if n < 65536 then 65535 else 2147483647
theorem z_mask (n : Nat) (hn : n ≤ 2147483647) : ∃ k, k ≤ 31 ∧ zmask n = 2 ^ k - 1 ∧ n < 2 ^ k := by
  unfold zmask
  split; · exact ⟨0, by omega, rfl, by omega⟩
  split; · exact ⟨1, by omega, rfl, by omega⟩
  split; · exact ⟨2, by omega, rfl, by omega⟩
  split; · exact ⟨3, by omega, rfl, by omega⟩
  split; · exact ⟨4, by omega, rfl, by omega⟩
  split; · exact ⟨5, by omega, rfl, by omega⟩
  split; · exact ⟨6, by omega, rfl, by omega⟩
  split; · exact ⟨7, by omega, rfl, by omega⟩
  split; · exact ⟨8, by omega, rfl, by omega⟩
  split; · exact ⟨9, by omega, rfl, by omega⟩
  split; · exact ⟨10, by omega, rfl, by omega⟩
  split; · exact ⟨16, by omega, rfl, by omega⟩
  exact ⟨31, by omega, rfl, by omega⟩
theorem z_or {x y : Int32} {n : Nat} (hx : 0 ≤ x.toInt) (hy : 0 ≤ y.toInt) (h1 : x.toInt ≤ n) (h2 : y.toInt ≤ n) (hn : n ≤ 2147483647) : (x.toInt ≤ (x ||| y).toInt ∧ y.toInt ≤ (x ||| y).toInt) ∧ (x ||| y).toInt ≤ (zmask n : Nat) := by
  obtain ⟨k, hk, em, hlt⟩ := z_mask n hn
  have e1 := z_nn hx
  have e2 := z_nn hy
  have e : (x ||| y).toBitVec.toNat < 2 ^ k := by
    rw [Int32.toBitVec_or, BitVec.toNat_or]
    exact Nat.or_lt_two_pow (by omega) (by omega)
  have l1 : x.toBitVec.toNat ≤ (x ||| y).toBitVec.toNat := by
    rw [Int32.toBitVec_or, BitVec.toNat_or]
    exact Nat.left_le_or
  have l2 : y.toBitVec.toNat ≤ (x ||| y).toBitVec.toNat := by
    rw [Int32.toBitVec_or, BitVec.toNat_or]
    exact Nat.right_le_or
  have hp : 2 ^ k ≤ 2 ^ 31 := Nat.pow_le_pow_right (by omega) hk
  have := z_nb (x := x ||| y) (by omega)
  omega
theorem z_xor {x y : Int32} {n : Nat} (hx : 0 ≤ x.toInt) (hy : 0 ≤ y.toInt) (h1 : x.toInt ≤ n) (h2 : y.toInt ≤ n) (hn : n ≤ 2147483647) : 0 ≤ (x ^^^ y).toInt ∧ (x ^^^ y).toInt ≤ (zmask n : Nat) := by
  obtain ⟨k, hk, em, hlt⟩ := z_mask n hn
  have e1 := z_nn hx
  have e2 := z_nn hy
  have e : (x ^^^ y).toBitVec.toNat < 2 ^ k := by
    rw [Int32.toBitVec_xor, BitVec.toNat_xor]
    exact Nat.xor_lt_two_pow (by omega) (by omega)
  have hp : 2 ^ k ≤ 2 ^ 31 := Nat.pow_le_pow_right (by omega) hk
  have := z_nb (x := x ^^^ y) (by omega)
  omega
theorem z_shl1 : ∀ k : Fin 31, ((1 : Int32) <<< (Int32.ofInt (k.val : Int) &&& 31)).toInt = ((2 ^ k.val : Nat) : Int) := by decide +kernel
theorem z_shl {y : Int32} (h1 : 0 ≤ y.toInt) (h2 : y.toInt ≤ 30) : ((1 : Int32) <<< (y &&& 31)).toInt = ((2 ^ y.toInt.toNat : Nat) : Int) := by
  have := z_shl1 ⟨y.toInt.toNat, by omega⟩
  simp only at this
  rw [show ((y.toInt.toNat : Nat) : Int) = y.toInt by omega, z_ofi] at this
  exact this
theorem z_shr {x y : Int32} (h : 0 ≤ x.toInt) : 0 ≤ (x >>> y).toInt ∧ (x >>> y).toInt ≤ x.toInt := by
  have e : (x >>> y).toInt = (x >>> y).toBitVec.toInt := rfl
  rw [e, Int32.toBitVec_shiftRight, BitVec.toInt_sshiftRight', Int.shiftRight_eq_div_pow]
  exact ⟨Int.ediv_nonneg h (by exact_mod_cast Nat.zero_le _), Int.ediv_le_self _ h⟩
