variable {η : zRn}
/-! token: the digits -/
theorem z_in32 {v lo hi : Int} (h1 : -2147483648 ≤ v ∧ v ≤ 2147483647) (h2 : -2147483648 ≤ lo ∧ lo ≤ 2147483647) (h3 : -2147483648 ≤ hi ∧ hi ≤ 2147483647) : (Int32.ofInt lo ≤ Int32.ofInt v ∧ Int32.ofInt v ≤ Int32.ofInt hi) ↔ (lo ≤ v ∧ v ≤ hi) := by
  rw [z_le32 h2 h1, z_le32 h1 h3]
theorem z_adi {x y : Int} (h1 : -2147483648 ≤ x ∧ x ≤ 2147483647) (h2 : -2147483648 ≤ y ∧ y ≤ 2147483647) (h3 : -2147483648 ≤ x + y ∧ x + y ≤ 2147483647) : Int32.ofInt x + Int32.ofInt y = Int32.ofInt (x + y) := by
  apply Int32.toInt_inj.mp
  rw [z_add (by rw [z_toi h1.1 h1.2, z_toi h2.1 h2.2]; exact h3.1) (by rw [z_toi h1.1 h1.2, z_toi h2.1 h2.2]; exact h3.2), z_toi h1.1 h1.2, z_toi h2.1 h2.2, z_toi h3.1 h3.2]
theorem z_sbi {x y : Int} (h1 : -2147483648 ≤ x ∧ x ≤ 2147483647) (h2 : -2147483648 ≤ y ∧ y ≤ 2147483647) (h3 : -2147483648 ≤ x - y ∧ x - y ≤ 2147483647) : Int32.ofInt x - Int32.ofInt y = Int32.ofInt (x - y) := by
  apply Int32.toInt_inj.mp
  rw [z_sub (by rw [z_toi h1.1 h1.2, z_toi h2.1 h2.2]; exact h3.1) (by rw [z_toi h1.1 h1.2, z_toi h2.1 h2.2]; exact h3.2), z_toi h1.1 h1.2, z_toi h2.1 h2.2, z_toi h3.1 h3.2]
