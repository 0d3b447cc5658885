/-! told numbers are within their bounds -/
def tW0 (t : Nat → Int) : Prop := (2 ≤ t 0 ∧ t 0 ≤ 8) ∧ (2 ≤ t 1 ∧ t 1 ≤ 8) ∧ (0 ≤ t 2 ∧ t 2 ≤ 3) ∧ (0 ≤ t 3 ∧ t 3 ≤ 3) ∧ (1 ≤ t 4 ∧ t 4 ≤ 9) ∧ (0 ≤ t 5 ∧ t 5 ≤ 4) ∧ (0 ≤ t 6 ∧ t 6 ≤ 6) ∧ (0 ≤ t 49 ∧ t 49 ≤ 63) ∧
  (∀ c : Nat, c < 3 → (1 ≤ t (7 + 4 * c) ∧ t (7 + 4 * c) ≤ 20) ∧ (0 ≤ t (8 + 4 * c) ∧ t (8 + 4 * c) ≤ 5) ∧ (0 ≤ t (9 + 4 * c) ∧ t (9 + 4 * c) ≤ 20) ∧ 1 ≤ t (10 + 4 * c) ∧ t (10 + 4 * c) ≤ 30) ∧
  (∀ s : Nat, s < 4 → (0 ≤ t (19 + 3 * s) ∧ t (19 + 3 * s) ≤ 63) ∧ (0 ≤ t (20 + 3 * s) ∧ t (20 + 3 * s) ≤ 99 ∧ ((s : Int) < t 5 → 1 ≤ t (20 + 3 * s))) ∧ 0 ≤ t (21 + 3 * s) ∧ t (21 + 3 * s) ≤ 4) ∧
  (∀ b : Nat, b < 6 → (0 ≤ t (31 + 3 * b) ∧ t (31 + 3 * b) ≤ 63) ∧ (0 ≤ t (32 + 3 * b) ∧ t (32 + 3 * b) ≤ 20) ∧ 0 ≤ t (33 + 3 * b) ∧ t (33 + 3 * b) ≤ 2)
/-- of deeds: what the numbers of each sort are -/
def tWd (d a b c : Int) : Prop := (d = 0 ∧ (0 ≤ a ∧ a ≤ 5) ∧ (0 ≤ b ∧ b ≤ 3) ∧ c = -1) ∨ (d = 1 ∧ (0 ≤ a ∧ a ≤ 5) ∧ (0 ≤ b ∧ b ≤ 5) ∧ 1 ≤ c ∧ c ≤ 20) ∨ (d = 2 ∧ (0 ≤ a ∧ a ≤ 5) ∧ (1 ≤ b ∧ b ≤ 20) ∧ c = -1) ∨ ((d = 3 ∨ d = 4) ∧ (0 ≤ a ∧ a ≤ 5) ∧ (0 ≤ b ∧ b ≤ 5) ∧ c = -1) ∨ (d = 5 ∧ a = -1 ∧ b = -1 ∧ c = -1)
def tW1 (t : Nat → Int) : Prop := (0 ≤ t 0 ∧ t 0 ≤ 30) ∧ ∀ k : Nat, k < 30 → ((k : Int) < t 0 → tWd (t (1 + 4 * k)) (t (2 + 4 * k)) (t (3 + 4 * k)) (t (4 + 4 * k))) ∧ (t 0 ≤ (k : Int) → t (1 + 4 * k) = 0 ∧ t (2 + 4 * k) = 0 ∧ t (3 + 4 * k) = 0 ∧ t (4 + 4 * k) = 0)
def tW2 (t : Nat → Int) : Prop := (0 ≤ t 0 ∧ t 0 ≤ 9) ∧ (0 ≤ t 1 ∧ t 1 ≤ 16) ∧ (∀ k : Nat, k < 9 → (0 ≤ t (2 + 2 * k) ∧ t (2 + 2 * k) ≤ 99) ∧ (0 ≤ t (3 + 2 * k) ∧ t (3 + 2 * k) ≤ 99) ∧ ((k : Int) < t 0 → t (2 + 2 * k) ≤ t (3 + 2 * k))) ∧ ∀ k : Nat, k < 16 → (0 ≤ t (20 + 2 * k) ∧ t (20 + 2 * k) ≤ 8) ∧ (0 ≤ t (21 + 2 * k) ∧ t (21 + 2 * k) ≤ 8) ∧ ((k : Int) < t 1 → t (20 + 2 * k) ≠ t (21 + 2 * k))
def tWf (of : Nat) (t : Nat → Int) : Prop := (of = 0 → tW0 t) ∧ (of = 1 → tW1 t) ∧ (of = 2 → tW2 t)
theorem lnG {ln i : Nat} {v : Nat → Int} {lo hi : Int} (h : ¬ lnB ln v i) (h2 : lnL ln i = lo) (h3 : lnH ln i = hi) : lo ≤ v i ∧ v i ≤ hi := by
  unfold lnB at h
  rw [h2, h3] at h
  omega
/-- a further one: what is where -/
theorem tK_new {t : Nat → Int} {ct from_ wide most r : Nat} {v : Nat → Int} (hf : t ct ≠ (most : Int)) (hr : r < wide) (hc : ct < from_) : tK t ct from_ wide most v (from_ + wide * (t ct).toNat + r) = v r := by
  unfold tK
  rw [if_neg hf]
  try simp only
  rw [if_neg (by omega), if_pos (by omega), show from_ + wide * (t ct).toNat + r - (from_ + wide * (t ct).toNat) = r by omega]
theorem tK_old {t : Nat → Int} {ct from_ wide most i : Nat} {v : Nat → Int} (hi : i ≠ ct) (hr : ¬ (from_ + wide * (t ct).toNat ≤ i ∧ i < from_ + wide * (t ct).toNat + wide)) : tK t ct from_ wide most v i = t i := by
  unfold tK
  split
  · rfl
  · simp only
    rw [if_neg hi, if_neg hr]
theorem tK_c1 {t : Nat → Int} {ct from_ wide most : Nat} {v : Nat → Int} (hf : t ct ≠ (most : Int)) : tK t ct from_ wide most v ct = t ct + 1 := by
  unfold tK
  rw [if_neg hf]
  exact if_pos rfl
