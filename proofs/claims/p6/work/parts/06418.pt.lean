/-! tokens, as numbers -/
def tW (f : Int → Bool) (u : Nat → Int) (n : Nat) : Nat → Nat → Nat
  | 0, r => r
  | k + 1, r => if r < n ∧ f (u r) = true then tW f u n k (r + 1) else r
def tGo (f : Int → Bool) (u : Nat → Int) (n r : Nat) : Nat := tW f u n (n - r) r
theorem tGo_stop {f : Int → Bool} {u : Nat → Int} {n r : Nat} (h : ¬ (r < n ∧ f (u r) = true)) : tGo f u n r = r := by
  unfold tGo
  cases n - r with
  | zero => rfl
  | succ k => simp only [tW]; rw [if_neg h]
theorem tGo_step {f : Int → Bool} {u : Nat → Int} {n r : Nat} (h1 : r < n) (h2 : f (u r) = true) : tGo f u n r = tGo f u n (r + 1) := by
  unfold tGo
  rw [show n - r = (n - (r + 1)) + 1 by omega]
  simp only [tW]
  rw [if_pos ⟨h1, h2⟩]
theorem tW_le {f : Int → Bool} {u : Nat → Int} {n : Nat} : ∀ {k r : Nat}, r ≤ tW f u n k r := by
  intro k
  induction k with
  | zero => intro r; exact Nat.le_refl r
  | succ k ih =>
    intro r
    simp only [tW]
    split
    · have := ih (r := r + 1)
      omega
    · exact Nat.le_refl r
theorem tGo_le {f : Int → Bool} {u : Nat → Int} {n r : Nat} : r ≤ tGo f u n r := tW_le
theorem tW_n {f : Int → Bool} {u : Nat → Int} {n : Nat} : ∀ {k r : Nat}, r ≤ n → tW f u n k r ≤ n := by
  intro k
  induction k with
  | zero => intro r h; exact h
  | succ k ih =>
    intro r h
    simp only [tW]
    split
    · rename_i h2
      exact ih (by omega)
    · exact h
theorem tGo_n {f : Int → Bool} {u : Nat → Int} {n r : Nat} (h : r ≤ n) : tGo f u n r ≤ n := tW_n h
/-- all that is passed is so -/
theorem tW_all {f : Int → Bool} {u : Nat → Int} {n : Nat} : ∀ {k r i : Nat}, r ≤ i → i < tW f u n k r → i < n ∧ f (u i) = true := by
  intro k
  induction k with
  | zero => intro r i h1 h2; simp only [tW] at h2; omega
  | succ k ih =>
    intro r i h1 h2
    simp only [tW] at h2
    split at h2
    · rename_i h3
      by_cases e : i = r
      · subst e; exact h3
      · exact ih (by omega) h2
    · omega
theorem tGo_all {f : Int → Bool} {u : Nat → Int} {n r i : Nat} (h1 : r ≤ i) (h2 : i < tGo f u n r) : i < n ∧ f (u i) = true := tW_all h1 h2
def tB (c : Int) : Bool := decide (c = 10) || decide (c = 32)
def tL (c : Int) : Bool := decide (97 ≤ c) && decide (c ≤ 122)
def tD (c : Int) : Bool := decide (48 ≤ c) && decide (c ≤ 57)
/-- a token from a place on: where it begins, what it is (0 the end, 1 none, 2 a word, 3 a number, 4 the sign), where it ends -/
def tkS (u : Nat → Int) (n r : Nat) : Nat := tGo tB u n r
def tkE (u : Nat → Int) (n r : Nat) : Nat :=
  if n ≤ tkS u n r then tkS u n r
  else if tL (u (tkS u n r)) = true then tGo tL u n (tkS u n r)
  else if tD (u (tkS u n r)) = true then tGo tD u n (tkS u n r)
  else tkS u n r + 1
def tkK (u : Nat → Int) (n r : Nat) : Nat :=
  if n ≤ tkS u n r then 0
  else if tL (u (tkS u n r)) = true then 2
  else if tD (u (tkS u n r)) = true then (if tGo tD u n (tkS u n r) - tkS u n r ≤ 2 then 3 else 1)
  else if u (tkS u n r) = 59 then 4 else 1
/-- letters as one number -/
def tPk (u : Nat → Int) (s : Nat) : Nat → Int
  | 0 => 0
  | k + 1 => tPk u s k * 256 + u (s + k)
def tkW (u : Nat → Int) (n r : Nat) : Int := if 8 < tkE u n r - tkS u n r then 0 else tPk u (tkS u n r) (tkE u n r - tkS u n r)
def tDg (u : Nat → Int) (s : Nat) : Nat → Int
  | 0 => 0
  | k + 1 => if k < 2 then 10 * tDg u s k + (u (s + k) - 48) else tDg u s k
def tkV (u : Nat → Int) (n r : Nat) : Int := tDg u (tkS u n r) (tkE u n r - tkS u n r)
theorem tPk_b {u : Nat → Int} {s : Nat} : ∀ {k : Nat}, (∀ i, i < k → 0 ≤ u (s + i) ∧ u (s + i) < 256) → 0 ≤ tPk u s k ∧ tPk u s k < 256 ^ k := by
  intro k
  induction k with
  | zero => intro _; simp [tPk]
  | succ k ih =>
    intro h
    have h1 := ih (fun i hi => h i (by omega))
    have h2 := h k (by omega)
    simp only [tPk]
    rw [Int.pow_succ]
    omega
theorem tkS_n {u : Nat → Int} {n r : Nat} (h : r ≤ n) : tkS u n r ≤ n := tGo_n h
theorem tkE_n {u : Nat → Int} {n r : Nat} (h : r ≤ n) : tkE u n r ≤ n := by
  unfold tkE
  split
  · exact tkS_n h
  · split
    · exact tGo_n (tkS_n h)
    · split
      · exact tGo_n (tkS_n h)
      · omega
theorem tkE_gt {u : Nat → Int} {n r : Nat} (h : tkS u n r < n) : tkS u n r < tkE u n r := by
  unfold tkE
  rw [if_neg (by omega)]
  split
  · rename_i h1
    rw [tGo_step h h1]
    exact tGo_le
  · split
    · rename_i h1
      rw [tGo_step h h1]
      exact tGo_le
    · omega
