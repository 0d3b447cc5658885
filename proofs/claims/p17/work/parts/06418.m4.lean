section
/-! tokens, as numbers -/
def tW (f : Int → Bool) (u : Nat → Int) (n : Nat) : Nat → Nat → Nat
  | 0, r => r
  | k + 1, r => if r < n ∧ f (u r) = true then tW f u n k (r + 1) else r
def tGo (f : Int → Bool) (u : Nat → Int) (n r : Nat) : Nat := tW f u n (n - r) r
theorem tGo_stop {f : Int → Bool} {u : Nat → Int} {n r : Nat} (h : ¬ (r < n ∧ f (u r) = true)) : tGo f u n r = r := by
  unfold tGo
  cases n - r with
  | zero => rfl
  | succ k => simp only [tW]; rw [if_neg h]
theorem tGo_step {f : Int → Bool} {u : Nat → Int} {n r : Nat} (h1 : r < n) (h2 : f (u r) = true) : tGo f u n r = tGo f u n (r + 1) := by
  unfold tGo
  rw [show n - r = (n - (r + 1)) + 1 by omega]
  simp only [tW]
  rw [if_pos ⟨h1, h2⟩]
theorem tW_le {f : Int → Bool} {u : Nat → Int} {n : Nat} : ∀ {k r : Nat}, r ≤ tW f u n k r := by
  intro k
  induction k with
  | zero => intro r; exact Nat.le_refl r
  | succ k ih =>
    intro r
    simp only [tW]
    split
    · have := ih (r := r + 1)
      omega
    · exact Nat.le_refl r
theorem tGo_le {f : Int → Bool} {u : Nat → Int} {n r : Nat} : r ≤ tGo f u n r := tW_le
theorem tW_n {f : Int → Bool} {u : Nat → Int} {n : Nat} : ∀ {k r : Nat}, r ≤ n → tW f u n k r ≤ n := by
  intro k
  induction k with
  | zero => intro r h; exact h
  | succ k ih =>
    intro r h
    simp only [tW]
    split
    · rename_i h2
      exact ih (by omega)
    · exact h
theorem tGo_n {f : Int → Bool} {u : Nat → Int} {n r : Nat} (h : r ≤ n) : tGo f u n r ≤ n := tW_n h
/-- all that is passed is so -/
theorem tW_all {f : Int → Bool} {u : Nat → Int} {n : Nat} : ∀ {k r i : Nat}, r ≤ i → i < tW f u n k r → i < n ∧ f (u i) = true := by
  intro k
  induction k with
  | zero => intro r i h1 h2; simp only [tW] at h2; omega
  | succ k ih =>
    intro r i h1 h2
    simp only [tW] at h2
    split at h2
    · rename_i h3
      by_cases e : i = r
      · subst e; exact h3
      · exact ih (by omega) h2
    · omega
theorem tGo_all {f : Int → Bool} {u : Nat → Int} {n r i : Nat} (h1 : r ≤ i) (h2 : i < tGo f u n r) : i < n ∧ f (u i) = true := tW_all h1 h2
def tB (c : Int) : Bool := decide (c = 10) || decide (c = 32)
def tL (c : Int) : Bool := decide (97 ≤ c) && decide (c ≤ 122)
def tD (c : Int) : Bool := decide (48 ≤ c) && decide (c ≤ 57)
/-- a token from a place on: where it begins, what it is (0 the end, 1 none, 2 a word, 3 a number, 4 the sign), where it ends -/
def tkS (u : Nat → Int) (n r : Nat) : Nat := tGo tB u n r
def tkE (u : Nat → Int) (n r : Nat) : Nat :=
  if n ≤ tkS u n r then tkS u n r
  else if tL (u (tkS u n r)) = true then tGo tL u n (tkS u n r)
  else if tD (u (tkS u n r)) = true then tGo tD u n (tkS u n r)
  else tkS u n r + 1
def tkK (u : Nat → Int) (n r : Nat) : Nat :=
  if n ≤ tkS u n r then 0
  else if tL (u (tkS u n r)) = true then 2
  else if tD (u (tkS u n r)) = true then (if tGo tD u n (tkS u n r) - tkS u n r ≤ 2 then 3 else 1)
  else if u (tkS u n r) = 59 then 4 else 1
/-- letters as one number -/
def tPk (u : Nat → Int) (s : Nat) : Nat → Int
  | 0 => 0
  | k + 1 => tPk u s k * 256 + u (s + k)
def tkW (u : Nat → Int) (n r : Nat) : Int := if 8 < tkE u n r - tkS u n r then 0 else tPk u (tkS u n r) (tkE u n r - tkS u n r)
def tDg (u : Nat → Int) (s : Nat) : Nat → Int
  | 0 => 0
  | k + 1 => if k < 2 then 10 * tDg u s k + (u (s + k) - 48) else tDg u s k
def tkV (u : Nat → Int) (n r : Nat) : Int := tDg u (tkS u n r) (tkE u n r - tkS u n r)
theorem tPk_b {u : Nat → Int} {s : Nat} : ∀ {k : Nat}, (∀ i, i < k → 0 ≤ u (s + i) ∧ u (s + i) < 256) → 0 ≤ tPk u s k ∧ tPk u s k < 256 ^ k := by
  intro k
  induction k with
  | zero => intro _; simp [tPk]
  | succ k ih =>
    intro h
    have h1 := ih (fun i hi => h i (by omega))
    have h2 := h k (by omega)
    simp only [tPk]
    rw [Int.pow_succ]
    omega
theorem tkS_n {u : Nat → Int} {n r : Nat} (h : r ≤ n) : tkS u n r ≤ n := tGo_n h
theorem tkE_n {u : Nat → Int} {n r : Nat} (h : r ≤ n) : tkE u n r ≤ n := by
  unfold tkE
  split
  · exact tkS_n h
  · split
    · exact tGo_n (tkS_n h)
    · split
      · exact tGo_n (tkS_n h)
      · omega
theorem tkE_gt {u : Nat → Int} {n r : Nat} (h : tkS u n r < n) : tkS u n r < tkE u n r := by
  unfold tkE
  rw [if_neg (by omega)]
  split
  · rename_i h1
    rw [tGo_step h h1]
    exact tGo_le
  · split
    · rename_i h1
      rw [tGo_step h h1]
      exact tGo_le
    · omega
end
section
/-! the reference: cells, the tape's bytes, token -/
theorem zup_eq {h : yH} {a j b i : Nat} {x : Int} (h1 : b = a) (h2 : i = j) : zup h a j x b i = x := by
  subst h1
  subst h2
  exact zup_at h _ _ x
theorem zup_app (h : yH) (a j : Nat) (x : Int) (b i : Nat) : zup h a j x b i = if b = a ∧ i = j then x else h b i := rfl
theorem zup_self (h : yH) (a j : Nat) : zup h a j (h a j) = h := by
  funext b i
  simp only [zup_app]
  split
  · rename_i e
    rw [e.1, e.2]
  · rfl
theorem tB_i {c : Int} : tB c = true ↔ c = 10 ∨ c = 32 := by simp [tB]
theorem tL_i {c : Int} : tL c = true ↔ 97 ≤ c ∧ c ≤ 122 := by simp [tL]
theorem tD_i {c : Int} : tD c = true ↔ 48 ≤ c ∧ c ≤ 57 := by simp [tD]
theorem y_and255 (x : Int) : 0 ≤ yari 7 x 255 ∧ yari 7 x 255 ≤ 255 := by
  have := z_and (x := Int32.ofInt x) (y := Int32.ofInt 255) (by decide)
  have e : (Int32.ofInt 255).toInt = 255 := by decide
  rw [e] at this
  exact this
/-- the tape's bytes -/
def uR (h : yH) (i : Nat) : Int := yari 7 (h 0 i) 255
theorem uR_b (h : yH) (i : Nat) : 0 ≤ uR h i ∧ uR h i ≤ 255 := y_and255 _
theorem uR_up {h : yH} {a j : Nat} {x : Int} (ha : a ≠ 0) : uR (zup h a j x) = uR h := by
  funext i
  unfold uR
  rw [zup_ne (fun q => ha q.1.symm)]
theorem in_t {n : Nat} {v lo hi : Int} {h : yH} (h1 : lo ≤ v ∧ v ≤ hi) : f_X12_in n [v, lo, hi] h = some (1, h) := by
  rw [e_X12_in, if_neg (by omega), if_neg (by omega)]
theorem in_f {n : Nat} {v lo hi : Int} {h : yH} (h1 : ¬ (lo ≤ v ∧ v ≤ hi)) : f_X12_in n [v, lo, hi] h = some (0, h) := by
  rw [e_X12_in]
  by_cases h2 : v < lo
  · rw [if_pos h2]
  · rw [if_neg h2, if_pos (by omega)]
theorem see_lt {n : Nat} {h : yH} (h1 : h 35 1 = 0) (h2 : 0 ≤ h 35 9) (h3 : h 35 9 < h 35 10) (h4 : h 35 10 ≤ 600) : f_X12_see n [35] h = some (uR h (h 35 9).toNat, h) := by
  rw [e_X12_see, if_pos h3, xg_pos h1, xg_pos ⟨h2, by omega⟩]
  rfl
theorem see_end {n : Nat} {h : yH} (h3 : ¬ h 35 9 < h 35 10) : f_X12_see n [35] h = some (-1, h) := by
  rw [e_X12_see, if_neg h3]
theorem gr_e {n : Nat} {a b : Int} {h : yH} : f_X12_greater n [a, b] h = some (max a b, h) := by
  rw [e_X12_greater]
  by_cases h1 : b < a
  · rw [if_pos h1, Int.max_eq_left (by omega)]
  · rw [if_neg h1, Int.max_eq_right (by omega)]
theorem fails_e {n : Nat} {h : yH} : f_X12_fails n [35] h = some (0, zup h 35 15 (h 35 11)) := e_X12_fails
theorem tDg_b {u : Nat → Int} {s k : Nat} (hk : k < 2) (h : ∀ i, i < k → 48 ≤ u (s + i) ∧ u (s + i) ≤ 57) : 0 ≤ tDg u s k ∧ tDg u s k ≤ 9 := by
  rcases (show k = 0 ∨ k = 1 by omega) with rfl | rfl
  · simp [tDg]
  · have := h 0 (by omega)
    simp only [tDg]
    rw [if_pos (by omega)]
    omega
theorem tDg_99 {u : Nat → Int} {s : Nat} : ∀ {k : Nat}, (∀ i, i < k → 48 ≤ u (s + i) ∧ u (s + i) ≤ 57) → 0 ≤ tDg u s k ∧ tDg u s k ≤ 99 := by
  intro k
  induction k with
  | zero => intro _; simp [tDg]
  | succ k ih =>
    intro h
    have h1 := ih (fun i hi => h i (by omega))
    simp only [tDg]
    split
    · rename_i hk
      have := tDg_b hk (fun i hi => h i (by omega))
      have := h k (by omega)
      omega
    · exact h1
theorem y_bvi {x : Int64} (h : x.toBitVec.toNat < 9223372036854775808) : x.toInt = (x.toBitVec.toNat : Int) := by
  have e : x.toInt = x.toBitVec.toInt := rfl
  rw [BitVec.toInt_eq_toNat_cond] at e
  split at e <;> omega
theorem y_bvo {k : Nat} (h : k < 9223372036854775808) : (Int64.ofInt (k : Int)).toBitVec.toNat = k := by
  have e : (Int64.ofInt (k : Int)).toBitVec = BitVec.ofInt 64 (k : Int) := rfl
  rw [e, BitVec.ofInt_natCast, BitVec.toNat_ofNat]
  omega
theorem y_lsh {w c : Int} (h1 : 0 ≤ w) (h2 : w < 36028797018963968) (h3 : 0 ≤ c) (h4 : c < 256) : ylor (ylshl w 8) c = w * 256 + c := by
  obtain ⟨k, rfl⟩ : ∃ k : Nat, w = (k : Int) := ⟨w.toNat, by omega⟩
  obtain ⟨d, rfl⟩ : ∃ d : Nat, c = (d : Int) := ⟨c.toNat, by omega⟩
  have e8 : ((Int32.ofInt 8).toInt64 &&& 63) = (8 : Int64) := by decide
  have eb : ((8 : Int64).toBitVec.smod 64) = 8#64 := by decide
  have e1 : (Int64.ofInt (k : Int) <<< (8 : Int64)).toBitVec.toNat = k * 256 := by
    rw [Int64.toBitVec_shiftLeft, eb, BitVec.shiftLeft_eq', BitVec.toNat_shiftLeft, y_bvo (by omega), Nat.shiftLeft_eq]
    show k * 2 ^ 8 % 2 ^ 64 = _
    omega
  have e2 : ylshl (k : Int) 8 = ((k * 256 : Nat) : Int) := by
    unfold ylshl
    rw [e8, y_bvi (by rw [e1]; omega), e1]
  have e3 : (Int64.ofInt ((k * 256 : Nat) : Int) ||| Int64.ofInt (d : Int)).toBitVec.toNat = k * 256 + d := by
    rw [Int64.toBitVec_or, BitVec.toNat_or, y_bvo (by omega), y_bvo (by omega)]
    have := Nat.shiftLeft_add_eq_or_of_lt (i := 8) (b := d) (by omega) k
    rw [Nat.shiftLeft_eq, show (2 : Nat) ^ 8 = 256 from rfl] at this
    omega
  unfold ylor
  rw [e2, y_bvi (by rw [e3]; omega), e3]
  omega
theorem tok_dig {u : Nat → Int} {N s : Nat} {c : Int} (hN : N ≤ 600) : ∀ (m k n : Nat) (h : yH), N - (s + k) = m → m < n → uR h = u → h 35 1 = 0 → h 35 10 = (N : Int) → h 35 9 = ((s + k : Nat) : Int) → s + k ≤ N → h 35 13 = tDg u s k → (∀ i, i < k → 48 ≤ u (s + i) ∧ u (s + i) ≤ 57) →
    ∃ h2, xl_X12_token n 163 [35, c, (k : Int)] h = some (0, h2) ∧ h2 35 9 = ((tGo tD u N (s + k) : Nat) : Int) ∧ h2 35 12 = (if 2 < tGo tD u N (s + k) - s then 1 else 3) ∧ h2 35 13 = tDg u s (tGo tD u N (s + k) - s) ∧ ∀ a j, ¬ (a = 35 ∧ (j = 9 ∨ j = 12 ∨ j = 13)) → h2 a j = h a j := by
  intro m
  induction m with
  | zero =>
    intro k n h e1 e2 hu hp h10 h9 hk hv hd
    obtain ⟨n, rfl⟩ : ∃ n', n = n' + 1 := ⟨n - 1, by omega⟩
    rw [e_X12_token_163, see_end (by omega), xb_some, in_f (by omega), xb_some, if_pos rfl, tGo_stop (by omega), show s + k - s = k by omega]
    by_cases hc : 2 < k
    · rw [if_pos (by omega), if_pos hc]
      exact ⟨_, rfl, by rw [zup_ne (by omega)]; exact h9, zup_at _ _ _ _, by rw [zup_ne (by omega)]; exact hv, fun a j q => zup_ne (by omega)⟩
    · rw [if_neg (by omega), if_neg hc]
      exact ⟨_, rfl, by rw [zup_ne (by omega)]; exact h9, zup_at _ _ _ _, by rw [zup_ne (by omega)]; exact hv, fun a j q => zup_ne (by omega)⟩
  | succ m ih =>
    intro k n h e1 e2 hu hp h10 h9 hk hv hd
    obtain ⟨n, rfl⟩ : ∃ n', n = n' + 1 := ⟨n - 1, by omega⟩
    rw [e_X12_token_163, see_lt hp (by omega) (by omega) (by omega), xb_some]
    have e9 : (h 35 9).toNat = s + k := by omega
    rw [hu, e9]
    by_cases hc : tD (u (s + k)) = true
    · have q := tD_i.mp hc
      have hb := uR_b h (s + k)
      rw [hu] at hb
      have hgo : tGo tD u N (s + k) = tGo tD u N (s + (k + 1)) := tGo_step (by omega) hc
      have hd1 : ∀ i, i < k + 1 → 48 ≤ u (s + i) ∧ u (s + i) ≤ 57 := fun i hi => by
        by_cases hik : i = k
        · subst hik; exact q
        · exact hd i (by omega)
      have h99 := tDg_99 hd1
      rw [in_t q, xb_some, if_neg (by omega)]
      have fin : ∃ h2, xl_X12_token n 163 [35, c, (k : Int) + 1] (zup (zup h 35 13 (tDg u s (k + 1))) 35 9 (h 35 9 + 1)) = some (0, h2) ∧ h2 35 9 = ((tGo tD u N (s + k) : Nat) : Int) ∧ h2 35 12 = (if 2 < tGo tD u N (s + k) - s then 1 else 3) ∧ h2 35 13 = tDg u s (tGo tD u N (s + k) - s) ∧ ∀ a j, ¬ (a = 35 ∧ (j = 9 ∨ j = 12 ∨ j = 13)) → h2 a j = h a j := by
        rw [hgo]
        obtain ⟨h2, r0, r1, r2, r3, r4⟩ := ih (k + 1) n (zup (zup h 35 13 (tDg u s (k + 1))) 35 9 (h 35 9 + 1)) (by omega) (by omega) (by rw [uR_up (by decide), uR_up (by decide), hu]) (by rw [zup_ne (by omega), zup_ne (by omega)]; exact hp) (by rw [zup_ne (by omega), zup_ne (by omega)]; exact h10) (by rw [zup_at]; omega) (by omega) (by rw [zup_ne (by omega), zup_at]) hd1
        exact ⟨h2, r0, r1, r2, r3, fun a j q => by rw [r4 a j q, zup_ne (by omega), zup_ne (by omega)]⟩
      by_cases hk2 : k < 2
      · have ev : 10 * h 35 13 + u (s + k) - 48 = tDg u s (k + 1) := by
          simp only [tDg]
          rw [if_pos hk2, hv]
          omega
        have hb9 := tDg_b hk2 hd
        rw [if_pos (by omega), xg_pos (by omega), see_lt hp (by omega) (by omega) (by omega), xb_some, hu, e9, xg_pos (by omega), xg_pos (by omega), xg_pos (by omega), xg_pos (by omega), xg_pos (by omega), xg_pos (by omega), ev]
        exact fin
      · have ev : h 35 13 = tDg u s (k + 1) := by
          simp only [tDg]
          rw [if_neg hk2, hv]
        rw [if_neg (by omega), xg_pos (by omega), xg_pos (by omega), xg_pos (by omega), xg_pos (by omega), ev]
        exact fin
    · have hst : ¬ (48 ≤ u (s + k) ∧ u (s + k) ≤ 57) := fun q => hc (tD_i.mpr q)
      rw [in_f hst, xb_some, if_pos rfl, tGo_stop (fun q => hc q.2), show s + k - s = k by omega]
      by_cases hc : 2 < k
      · rw [if_pos (by omega), if_pos hc]
        exact ⟨_, rfl, by rw [zup_ne (by omega)]; exact h9, zup_at _ _ _ _, by rw [zup_ne (by omega)]; exact hv, fun a j q => zup_ne (by omega)⟩
      · rw [if_neg (by omega), if_neg hc]
        exact ⟨_, rfl, by rw [zup_ne (by omega)]; exact h9, zup_at _ _ _ _, by rw [zup_ne (by omega)]; exact hv, fun a j q => zup_ne (by omega)⟩
theorem tPk_c {u : Nat → Int} {s k : Nat} (hk : k ≤ 7) (h : ∀ i, i < k → 97 ≤ u (s + i) ∧ u (s + i) ≤ 122) : 0 ≤ tPk u s k ∧ tPk u s k < 36028797018963968 := by
  have g : ∀ i, i < k → 97 ≤ u (s + i) ∧ u (s + i) ≤ 122 := h
  rcases (show k = 0 ∨ k = 1 ∨ k = 2 ∨ k = 3 ∨ k = 4 ∨ k = 5 ∨ k = 6 ∨ k = 7 by omega) with rfl | rfl | rfl | rfl | rfl | rfl | rfl | rfl
  all_goals
    have h0 := g 0
    have h1 := g 1
    have h2 := g 2
    have h3 := g 3
    have h4 := g 4
    have h5 := g 5
    have h6 := g 6
    simp only [tPk]
    try simp at h0 h1 h2 h3 h4 h5 h6
    try simp only [Nat.add_zero]
    omega
theorem tok_let {u : Nat → Int} {N s : Nat} {c : Int} (hN : N ≤ 600) : ∀ (m k n : Nat) (h : yH), N - (s + k) = m → m < n → uR h = u → h 35 1 = 0 → h 35 10 = (N : Int) → h 35 9 = ((s + k : Nat) : Int) → s + k ≤ N → (k ≤ 8 → h 35 14 = tPk u s k) → (∀ i, i < k → 97 ≤ u (s + i) ∧ u (s + i) ≤ 122) →
    ∃ h2, xl_X12_token n 74 [35, c, (k : Int)] h = some (0, h2) ∧ h2 35 9 = ((tGo tL u N (s + k) : Nat) : Int) ∧ h2 35 12 = 2 ∧ h2 35 14 = (if 8 < tGo tL u N (s + k) - s then 0 else tPk u s (tGo tL u N (s + k) - s)) ∧ ∀ a j, ¬ (a = 35 ∧ (j = 9 ∨ j = 12 ∨ j = 14)) → h2 a j = h a j := by
  intro m
  induction m with
  | zero =>
    intro k n h e1 e2 hu hp h10 h9 hk hv hd
    obtain ⟨n, rfl⟩ : ∃ n', n = n' + 1 := ⟨n - 1, by omega⟩
    rw [e_X12_token_74, see_end (by omega), xb_some, in_f (by omega), xb_some, if_pos rfl, tGo_stop (by omega), show s + k - s = k by omega]
    by_cases hc : 8 < k
    · rw [if_pos (by omega), if_pos hc]
      exact ⟨_, rfl, by rw [zup_ne (by omega), zup_ne (by omega)]; exact h9, zup_at _ _ _ _, by rw [zup_ne (by omega), zup_at], fun a j q => by rw [zup_ne (by omega), zup_ne (by omega)]⟩
    · rw [if_neg (by omega), if_neg hc]
      exact ⟨_, rfl, by rw [zup_ne (by omega), zup_ne (by omega)]; exact h9, zup_at _ _ _ _, by rw [zup_ne (by omega), zup_at]; exact hv (by omega), fun a j q => by rw [zup_ne (by omega), zup_ne (by omega)]⟩
  | succ m ih =>
    intro k n h e1 e2 hu hp h10 h9 hk hv hd
    obtain ⟨n, rfl⟩ : ∃ n', n = n' + 1 := ⟨n - 1, by omega⟩
    rw [e_X12_token_74, see_lt hp (by omega) (by omega) (by omega), xb_some]
    have e9 : (h 35 9).toNat = s + k := by omega
    rw [hu, e9]
    by_cases hc : tL (u (s + k)) = true
    · have q := tL_i.mp hc
      have hgo : tGo tL u N (s + k) = tGo tL u N (s + (k + 1)) := tGo_step (by omega) hc
      have hd1 : ∀ i, i < k + 1 → 97 ≤ u (s + i) ∧ u (s + i) ≤ 122 := fun i hi => by
        by_cases hik : i = k
        · subst hik; exact q
        · exact hd i (by omega)
      rw [in_t q, xb_some, if_neg (by omega), see_lt hp (by omega) (by omega) (by omega), xb_some, hu, e9, xg_pos (by omega), xg_pos (by omega), xg_pos (by omega), hgo]
      obtain ⟨h2, r0, r1, r2, r3, r4⟩ := ih (k + 1) n (zup (zup h 35 14 (ylor (ylshl (h 35 14) 8) (u (s + k)))) 35 9 (h 35 9 + 1)) (by omega) (by omega) (by rw [uR_up (by decide), uR_up (by decide), hu]) (by rw [zup_ne (by omega), zup_ne (by omega)]; exact hp) (by rw [zup_ne (by omega), zup_ne (by omega)]; exact h10) (by rw [zup_at]; omega) (by omega) (fun hk8 => by
        rw [zup_ne (by omega), zup_at, hv (by omega)]
        have hb := tPk_c (by omega) hd
        simp only [tPk]
        exact y_lsh hb.1 (by omega) (by omega) (by omega)) hd1
      exact ⟨h2, r0, r1, r2, r3, fun a j q => by rw [r4 a j q, zup_ne (by omega), zup_ne (by omega)]⟩
    · have hst : ¬ (97 ≤ u (s + k) ∧ u (s + k) ≤ 122) := fun q => hc (tL_i.mpr q)
      rw [in_f hst, xb_some, if_pos rfl, tGo_stop (fun q => hc q.2), show s + k - s = k by omega]
      by_cases hc : 8 < k
      · rw [if_pos (by omega), if_pos hc]
        exact ⟨_, rfl, by rw [zup_ne (by omega), zup_ne (by omega)]; exact h9, zup_at _ _ _ _, by rw [zup_ne (by omega), zup_at], fun a j q => by rw [zup_ne (by omega), zup_ne (by omega)]⟩
      · rw [if_neg (by omega), if_neg hc]
        exact ⟨_, rfl, by rw [zup_ne (by omega), zup_ne (by omega)]; exact h9, zup_at _ _ _ _, by rw [zup_ne (by omega), zup_at]; exact hv (by omega), fun a j q => by rw [zup_ne (by omega), zup_ne (by omega)]⟩
/-- what token() leaves -/
def tokF (h h2 : yH) : Prop := ∀ a j, ¬ (a = 35 ∧ (j = 9 ∨ (11 ≤ j ∧ j ≤ 14))) → h2 a j = h a j
/-- the token at a place is the one that is read -/
def tokA (u : Nat → Int) (N x : Nat) (h : yH) : Prop := h 35 9 = (tkE u N x : Nat) ∧ h 35 11 = (tkS u N x : Nat) ∧ h 35 12 = (tkK u N x : Nat) ∧ (tkK u N x = 3 → h 35 13 = tkV u N x) ∧ (tkK u N x = 2 → h 35 14 = tkW u N x)
theorem tok_e {u : Nat → Int} {N : Nat} (hN : N ≤ 600) : ∀ (m x n : Nat) (h : yH), N - x = m → m + 700 < n → uR h = u → h 35 1 = 0 → h 35 10 = (N : Int) → h 35 9 = (x : Int) → x ≤ N → ∃ h2, xl_X12_token n 0 [35] h = some (0, h2) ∧ tokA u N x h2 ∧ tokF h h2 := by
  intro m
  induction m with
  | zero =>
    intro x n h e1 e2 hu hp h10 h9 hx
    obtain ⟨n, rfl⟩ : ∃ n', n = n' + 1 := ⟨n - 1, by omega⟩
    have hS : tkS u N x = x := tGo_stop (by omega)
    have hE : tkE u N x = x := by unfold tkE; rw [hS, if_pos (by omega)]
    have hK : tkK u N x = 0 := by unfold tkK; rw [hS, if_pos (by omega)]
    rw [e_X12_token_0, see_end (by omega), xb_some, if_neg (by omega), see_end (by omega), xb_some, if_neg (by omega), xg_pos (by omega), see_end (by rw [zup_ne (by omega), zup_ne (by omega)]; omega), xb_some, if_pos (by omega)]
    refine ⟨_, rfl, ⟨?_, ?_, ?_, ?_, ?_⟩, ?_⟩
    · rw [hE, zup_ne (by omega), zup_ne (by omega), zup_ne (by omega)]; exact h9
    · rw [hS, zup_ne (by omega), zup_ne (by omega), zup_at]; exact h9
    · rw [hK, zup_at]; rfl
    · intro q; omega
    · intro q; omega
    · intro a j q
      rw [zup_ne (by omega), zup_ne (by omega), zup_ne (by omega)]
  | succ m ih =>
    intro x n h e1 e2 hu hp h10 h9 hx
    obtain ⟨n, rfl⟩ : ∃ n', n = n' + 1 := ⟨n - 1, by omega⟩
    have e9 : (h 35 9).toNat = x := by omega
    have hb := uR_b h x
    rw [hu] at hb
    rw [e_X12_token_0, see_lt hp (by omega) (by omega) (by omega), xb_some, hu, e9]
    by_cases hB : tB (u x) = true
    · have hstep : tkS u N x = tkS u N (x + 1) := tGo_step (by omega) hB
      have hA : ∀ h2, tokA u N (x + 1) h2 → tokA u N x h2 := by
        intro h2
        unfold tokA tkE tkK tkV tkW tkE
        rw [hstep]
        exact fun q => q
      have fin : ∃ h2, xl_X12_token n 0 [35] (zup h 35 9 (h 35 9 + 1)) = some (0, h2) ∧ tokA u N x h2 ∧ tokF h h2 := by
        obtain ⟨h2, r0, r1, r2⟩ := ih (x + 1) n (zup h 35 9 (h 35 9 + 1)) (by omega) (by omega) (by rw [uR_up (by decide), hu]) (by rw [zup_ne (by omega)]; exact hp) (by rw [zup_ne (by omega)]; exact h10) (by rw [zup_at]; omega) (by omega)
        exact ⟨h2, r0, hA h2 r1, fun a j q => by rw [r2 a j q, zup_ne (by omega)]⟩
      rcases tB_i.mp hB with hc | hc
      · rw [if_pos hc, xg_pos (by omega), xg_pos (by omega)]
        exact fin
      · rw [if_neg (by omega), see_lt hp (by omega) (by omega) (by omega), xb_some, hu, e9, if_pos hc, xg_pos (by omega), xg_pos (by omega)]
        exact fin
    · have hnb : ¬ (u x = 10 ∨ u x = 32) := fun q => hB (tB_i.mpr q)
      have hS : tkS u N x = x := tGo_stop (fun q => hB q.2)
      rw [if_neg (by omega), see_lt hp (by omega) (by omega) (by omega), xb_some, hu, e9, if_neg (by omega), xg_pos (by omega), see_lt (by rw [zup_ne (by omega)]; exact hp) (by rw [zup_ne (by omega)]; omega) (by rw [zup_ne (by omega), zup_ne (by omega)]; omega) (by rw [zup_ne (by omega)]; omega), xb_some, uR_up (by decide), hu, zup_ne (by omega), e9, if_neg (by omega)]
      by_cases hL : tL (u x) = true
      · have q := tL_i.mp hL
        rw [in_t q, xb_some, if_neg (by omega)]
        obtain ⟨h2, r0, r1, r2, r3, r4⟩ := tok_let (c := u x) (s := x) hN (N - (x + 0)) 0 n (zup (zup h 35 11 (h 35 9)) 35 14 0) rfl (by omega) (by rw [uR_up (by decide), uR_up (by decide), hu]) (by rw [zup_ne (by omega), zup_ne (by omega)]; exact hp) (by rw [zup_ne (by omega), zup_ne (by omega)]; exact h10) (by rw [zup_ne (by omega), zup_ne (by omega)]; exact h9) (by omega) (fun _ => by rw [zup_at]; rfl) (fun i hi => by omega)
        have hE : tkE u N x = tGo tL u N (x + 0) := by unfold tkE; rw [hS, if_neg (by omega), if_pos hL]; rfl
        have hK : tkK u N x = 2 := by unfold tkK; rw [hS, if_neg (by omega), if_pos hL]
        refine ⟨h2, r0, ⟨?_, ?_, ?_, ?_, ?_⟩, ?_⟩
        · rw [hE]; exact r1
        · rw [hS, r4 35 11 (by omega), zup_ne (by omega), zup_at]; exact h9
        · rw [hK]; exact r2
        · intro q; omega
        · intro _
          unfold tkW
          rw [hE, hS]
          exact r3
        · intro a j q
          rw [r4 a j (by omega), zup_ne (by omega), zup_ne (by omega)]
      · have hnl : ¬ (97 ≤ u x ∧ u x ≤ 122) := fun q => hL (tL_i.mpr q)
        rw [in_f hnl, xb_some, if_pos rfl]
        by_cases hD : tD (u x) = true
        · have q := tD_i.mp hD
          rw [in_t q, xb_some, if_neg (by omega)]
          obtain ⟨h2, r0, r1, r2, r3, r4⟩ := tok_dig (c := u x) (s := x) hN (N - (x + 0)) 0 n (zup (zup (zup h 35 11 (h 35 9)) 35 14 0) 35 13 0) rfl (by omega) (by rw [uR_up (by decide), uR_up (by decide), uR_up (by decide), hu]) (by rw [zup_ne (by omega), zup_ne (by omega), zup_ne (by omega)]; exact hp) (by rw [zup_ne (by omega), zup_ne (by omega), zup_ne (by omega)]; exact h10) (by rw [zup_ne (by omega), zup_ne (by omega), zup_ne (by omega)]; exact h9) (by omega) (by rw [zup_at]; rfl) (fun i hi => by omega)
          have hE : tkE u N x = tGo tD u N (x + 0) := by unfold tkE; rw [hS, if_neg (by omega), if_neg hL, if_pos hD]; rfl
          have hK : tkK u N x = if tGo tD u N (x + 0) - x ≤ 2 then 3 else 1 := by unfold tkK; rw [hS, if_neg (by omega), if_neg hL, if_pos hD]; rfl
          refine ⟨h2, r0, ⟨?_, ?_, ?_, ?_, ?_⟩, ?_⟩
          · rw [hE]; exact r1
          · rw [hS, r4 35 11 (by omega), zup_ne (by omega), zup_ne (by omega), zup_at]; exact h9
          · rw [hK, r2]
            split
            · rw [if_neg (by omega)]; rfl
            · rw [if_pos (by omega)]; rfl
          · intro _
            unfold tkV
            rw [hE, hS]
            exact r3
          · intro q
            rw [hK] at q
            split at q <;> omega
          · intro a j q
            rw [r4 a j (by omega), zup_ne (by omega), zup_ne (by omega), zup_ne (by omega)]
        · have hnd : ¬ (48 ≤ u x ∧ u x ≤ 57) := fun q => hD (tD_i.mpr q)
          have e99 : zup (zup h 35 11 (h 35 9)) 35 14 0 35 9 = h 35 9 := by rw [zup_ne (by omega), zup_ne (by omega)]
          rw [in_f hnd, xb_some, if_pos rfl, e99, xg_pos (by omega), xg_pos (by omega)]
          have hE : tkE u N x = x + 1 := by unfold tkE; rw [hS, if_neg (by omega), if_neg hL, if_neg hD]
          by_cases h59 : u x = 59
          · have hK : tkK u N x = 4 := by unfold tkK; rw [hS, if_neg (by omega), if_neg hL, if_neg hD, if_pos h59]
            rw [if_pos h59]
            refine ⟨_, rfl, ⟨?_, ?_, ?_, ?_, ?_⟩, ?_⟩
            · rw [hE, zup_ne (by omega), zup_at]; omega
            · rw [hS, zup_ne (by omega), zup_ne (by omega), zup_ne (by omega), zup_at]; exact h9
            · rw [hK, zup_at]; rfl
            · intro q; omega
            · intro q; omega
            · intro a j q
              rw [zup_ne (by omega), zup_ne (by omega), zup_ne (by omega), zup_ne (by omega)]
          · have hK : tkK u N x = 1 := by unfold tkK; rw [hS, if_neg (by omega), if_neg hL, if_neg hD, if_neg h59]
            rw [if_neg h59]
            refine ⟨_, rfl, ⟨?_, ?_, ?_, ?_, ?_⟩, ?_⟩
            · rw [hE, zup_ne (by omega), zup_at]; omega
            · rw [hS, zup_ne (by omega), zup_ne (by omega), zup_ne (by omega), zup_at]; exact h9
            · rw [hK, zup_at]; rfl
            · intro q; omega
            · intro q; omega
            · intro a j q
              rw [zup_ne (by omega), zup_ne (by omega), zup_ne (by omega), zup_ne (by omega)]
theorem token_e {u : Nat → Int} {N x n : Nat} {h : yH} (hn : 1400 ≤ n) (hN : N ≤ 600) (hu : uR h = u) (hp : h 35 1 = 0) (h10 : h 35 10 = (N : Int)) (h9 : h 35 9 = (x : Int)) (hx : x ≤ N) : ∃ h2, f_X12_token n [35] h = some (0, h2) ∧ tokA u N x h2 ∧ tokF h h2 := by
  rw [e_X12_token]
  exact tok_e hN (N - x) x n h rfl (by omega) hu hp h10 h9 hx
end
section
/-! texts, as numbers: lines, faults, contents -/
/-- the place of the i-th token from a place on -/
def tkN (u : Nat → Int) (N x : Nat) : Nat → Nat
  | 0 => x
  | i + 1 => tkE u N (tkN u N x i)
/-- how many numbers a line has, and their bounds -/
def lnN (ln : Nat) : Nat := ((zTv 1).getD ln 0).toNat
def lnL (ln i : Nat) : Int := (zTv 2).getD (5 * ln + i) 0
def lnH (ln i : Nat) : Int := (zTv 3).getD (5 * ln + i) 0
/-- a number that can't be -/
def lnB (ln : Nat) (v : Nat → Int) (i : Nat) : Prop := ¬ (lnL ln i ≤ v i ∧ v i ≤ lnH ln i) ∨ (ln = 13 ∧ i = 1 ∧ v 1 < v 0) ∨ (ln = 14 ∧ i = 1 ∧ v 1 = v 0)
/-- the first fault stays -/
def nt (q : Int × Int) (c : Prop) [Decidable c] (f p : Int) : Int × Int := if q.1 = 0 ∧ c then (f, p) else q
theorem nt_f {q : Int × Int} {c : Prop} [Decidable c] {f p : Int} (h : ¬ c) : nt q c f p = q := by
  unfold nt
  rw [if_neg (fun e => h e.2)]
theorem nt_t {q : Int × Int} {c : Prop} [Decidable c] {f p : Int} (h0 : q.1 = 0) (h : c) : nt q c f p = (f, p) := by
  unfold nt
  rw [if_pos ⟨h0, h⟩]
theorem nt_n {q : Int × Int} {c : Prop} [Decidable c] {f p : Int} (h0 : ¬ q.1 = 0) : nt q c f p = q := by
  unfold nt
  rw [if_neg (fun e => h0 e.1)]
/-- the faults of the first k numbers of a line -/
noncomputable def ntL (ln : Nat) (v : Nat → Int) (p : Nat → Int) (q : Int × Int) : Nat → Int × Int
  | 0 => q
  | i + 1 => @nt (ntL ln v p q i) (lnB ln v i) (Classical.propDecidable _) 2 (p i)
/-- a sea's, a day's, a dispute's numbers as they are told: t 5, t 6 shoals and boats; t 0 deeds; t 0, t 1 sayings and aheads -/
def tU (t : Nat → Int) (j : Nat) (x : Int) : Nat → Int := fun i => if i = j then x else t i
theorem tU_at (t : Nat → Int) (j : Nat) (x : Int) : tU t j x j = x := by unfold tU; rw [if_pos rfl]
theorem tU_ne {t : Nat → Int} {j i : Nat} {x : Int} (h : i ≠ j) : tU t j x i = t i := by unfold tU; rw [if_neg h]
/-- a further one: its numbers behind those of the others -/
def tK (t : Nat → Int) (ct from_ wide most : Nat) (v : Nat → Int) : Nat → Int := if t ct = (most : Int) then t else fun i => if i = ct then t ct + 1 else if from_ + wide * (t ct).toNat ≤ i ∧ i < from_ + wide * (t ct).toNat + wide then v (i - (from_ + wide * (t ct).toNat)) else t i
/-- where a line's further one is counted, and how many may be -/
def lnC (ln : Nat) : Nat := if ln = 4 then 5 else if ln = 5 then 6 else if ln = 14 then 1 else 0
def lnM (ln : Nat) : Int := if ln = 4 then 4 else if ln = 5 then 6 else if ln = 13 then 9 else if ln = 14 then 16 else 30
def lnAdds (ln : Nat) : Prop := ln = 4 ∨ ln = 5 ∨ 7 ≤ ln
/-- a line says it -/
def lnT (ln : Nat) (v : Nat → Int) (t : Nat → Int) : Nat → Int :=
  if ln = 0 then tU (tU t 0 (v 0)) 1 (v 1)
  else if ln = 1 then tU (tU t 2 (v 0)) 3 (v 1)
  else if ln = 2 then tU t 4 (v 0)
  else if ln = 3 then tU (tU (tU (tU t (7 + 4 * (v 0).toNat) (v 1)) (7 + 4 * (v 0).toNat + 1) (v 2)) (7 + 4 * (v 0).toNat + 2) (v 3)) (7 + 4 * (v 0).toNat + 3) (v 4)
  else if ln = 4 then tK t 5 19 3 4 v
  else if ln = 5 then tK t 6 31 3 6 v
  else if ln = 6 then tU t 49 (yari 8 (t 49) (yari 5 1 (v 0)))
  else if ln = 13 then tK t 0 2 2 9 v
  else if ln = 14 then tK t 1 20 2 16 v
  else tK t 0 1 4 30 (fun i => if i = 0 then (ln : Int) - 7 else if i ≤ lnN ln then v (i - 1) else -1)
/-- the furthest cell and the furthest boat or saying that a line tells of -/
def lnFc (ln : Nat) (v : Nat → Int) (c : Int) : Int := if ln = 4 ∨ ln = 5 then max c (v 0) else c
def lnFo (ln : Nat) (v : Nat → Int) (o : Int) : Int := if ln = 6 then max o (v 0) else if ln = 14 then max o (max (v 0) (v 1)) else o
/-- words as numbers, those of a sort from the first on -/
def lnW : List Int := [1936292453, 2003398244, 1852142707, 427070419828, 495673368940, 1651466612, 1684365670, 7499639, 427020085613, 6384748, 495807392116, 7234932, 2002872692, 1935763812, 418363302244]
def lnIn (of ln : Nat) : Prop := (zTv 0).getD of 0 ≤ (ln : Int) ∧ (ln : Int) < (zTv 0).getD (of + 1) 0
/-- the line that begins at a place: 15 if there is none -/
def lnAt (u : Nat → Int) (N of x : Nat) : Nat :=
  if tkK u N x = 2 then (List.range 15).findIdx (fun ln : Nat => decide ((zTv 0).getD of 0 ≤ (ln : Int)) && decide ((ln : Int) < (zTv 0).getD (of + 1) 0) && decide (lnW.getD ln 0 = tkW u N x)) else 15
/-- what is wrong at the end -/
def lnX (of : Nat) (t : Nat → Int) (c o : Int) : Prop := (of = 0 ∧ (t 0 * t 1 ≤ c ∨ t 6 ≤ o)) ∨ (of = 2 ∧ (t 0 = 0 ∨ t 0 ≤ o))
/-- a text, line by line -/
noncomputable def pRd (u : Nat → Int) (N of : Nat) : Nat → Nat → Int × Int → (Nat → Int) → Int → Int → (Int × Int) × (Nat → Int)
  | 0, _, q, t, _, _ => (q, t)
  | n + 1, x, q, t, c, o =>
    if tkK u N x = 0 then (@nt q (lnX of t c o) (Classical.propDecidable _) 4 (tkS u N x : Nat), t)
    else if lnAt u N of x = 15 then ((1, (tkS u N x : Nat)), t)
    else if h : ∃ i, i < lnN (lnAt u N of x) ∧ tkK u N (tkN u N x (i + 1)) ≠ 3 ∧ ∀ j, j < i → tkK u N (tkN u N x (j + 1)) = 3 then ((1, (tkS u N (tkN u N x (h.choose + 1)) : Nat)), t)
    else if tkK u N (tkN u N x (lnN (lnAt u N of x) + 1)) ≠ 4 then ((1, (tkS u N (tkN u N x (lnN (lnAt u N of x) + 1)) : Nat)), t)
    else pRd u N of n (tkE u N (tkN u N x (lnN (lnAt u N of x) + 1)))
      (ntL (lnAt u N of x) (fun i => tkV u N (tkN u N x (i + 1))) (fun i => (tkS u N (tkN u N x (i + 1)) : Nat)) (@nt q (lnAdds (lnAt u N of x) ∧ t (lnC (lnAt u N of x)) = lnM (lnAt u N of x)) (Classical.propDecidable _) 3 (tkS u N x : Nat)) (lnN (lnAt u N of x)))
      (lnT (lnAt u N of x) (fun i => tkV u N (tkN u N x (i + 1))) t) (lnFc (lnAt u N of x) (fun i => tkV u N (tkN u N x (i + 1))) c) (lnFo (lnAt u N of x) (fun i => tkV u N (tkN u N x (i + 1))) o)
end
section
/-! told numbers are within their bounds -/
def tW0 (t : Nat → Int) : Prop := (2 ≤ t 0 ∧ t 0 ≤ 8) ∧ (2 ≤ t 1 ∧ t 1 ≤ 8) ∧ (0 ≤ t 2 ∧ t 2 ≤ 3) ∧ (0 ≤ t 3 ∧ t 3 ≤ 3) ∧ (1 ≤ t 4 ∧ t 4 ≤ 9) ∧ (0 ≤ t 5 ∧ t 5 ≤ 4) ∧ (0 ≤ t 6 ∧ t 6 ≤ 6) ∧ (0 ≤ t 49 ∧ t 49 ≤ 63) ∧
  (∀ c : Nat, c < 3 → (1 ≤ t (7 + 4 * c) ∧ t (7 + 4 * c) ≤ 20) ∧ (0 ≤ t (8 + 4 * c) ∧ t (8 + 4 * c) ≤ 5) ∧ (0 ≤ t (9 + 4 * c) ∧ t (9 + 4 * c) ≤ 20) ∧ 1 ≤ t (10 + 4 * c) ∧ t (10 + 4 * c) ≤ 30) ∧
  (∀ s : Nat, s < 4 → (0 ≤ t (19 + 3 * s) ∧ t (19 + 3 * s) ≤ 63) ∧ (0 ≤ t (20 + 3 * s) ∧ t (20 + 3 * s) ≤ 99 ∧ ((s : Int) < t 5 → 1 ≤ t (20 + 3 * s))) ∧ 0 ≤ t (21 + 3 * s) ∧ t (21 + 3 * s) ≤ 4) ∧
  (∀ b : Nat, b < 6 → (0 ≤ t (31 + 3 * b) ∧ t (31 + 3 * b) ≤ 63) ∧ (0 ≤ t (32 + 3 * b) ∧ t (32 + 3 * b) ≤ 20) ∧ 0 ≤ t (33 + 3 * b) ∧ t (33 + 3 * b) ≤ 2)
/-- of deeds: what the numbers of each sort are -/
def tWd (d a b c : Int) : Prop := (d = 0 ∧ (0 ≤ a ∧ a ≤ 5) ∧ (0 ≤ b ∧ b ≤ 3) ∧ c = -1) ∨ (d = 1 ∧ (0 ≤ a ∧ a ≤ 5) ∧ (0 ≤ b ∧ b ≤ 5) ∧ 1 ≤ c ∧ c ≤ 20) ∨ (d = 2 ∧ (0 ≤ a ∧ a ≤ 5) ∧ (1 ≤ b ∧ b ≤ 20) ∧ c = -1) ∨ ((d = 3 ∨ d = 4) ∧ (0 ≤ a ∧ a ≤ 5) ∧ (0 ≤ b ∧ b ≤ 5) ∧ c = -1) ∨ (d = 5 ∧ a = -1 ∧ b = -1 ∧ c = -1)
def tW1 (t : Nat → Int) : Prop := (0 ≤ t 0 ∧ t 0 ≤ 30) ∧ ∀ k : Nat, k < 30 → ((k : Int) < t 0 → tWd (t (1 + 4 * k)) (t (2 + 4 * k)) (t (3 + 4 * k)) (t (4 + 4 * k))) ∧ (t 0 ≤ (k : Int) → t (1 + 4 * k) = 0 ∧ t (2 + 4 * k) = 0 ∧ t (3 + 4 * k) = 0 ∧ t (4 + 4 * k) = 0)
def tW2 (t : Nat → Int) : Prop := (0 ≤ t 0 ∧ t 0 ≤ 9) ∧ (0 ≤ t 1 ∧ t 1 ≤ 16) ∧ (∀ k : Nat, k < 9 → (0 ≤ t (2 + 2 * k) ∧ t (2 + 2 * k) ≤ 99) ∧ (0 ≤ t (3 + 2 * k) ∧ t (3 + 2 * k) ≤ 99) ∧ ((k : Int) < t 0 → t (2 + 2 * k) ≤ t (3 + 2 * k))) ∧ ∀ k : Nat, k < 16 → (0 ≤ t (20 + 2 * k) ∧ t (20 + 2 * k) ≤ 8) ∧ (0 ≤ t (21 + 2 * k) ∧ t (21 + 2 * k) ≤ 8) ∧ ((k : Int) < t 1 → t (20 + 2 * k) ≠ t (21 + 2 * k))
def tWf (of : Nat) (t : Nat → Int) : Prop := (of = 0 → tW0 t) ∧ (of = 1 → tW1 t) ∧ (of = 2 → tW2 t)
theorem lnG {ln i : Nat} {v : Nat → Int} {lo hi : Int} (h : ¬ lnB ln v i) (h2 : lnL ln i = lo) (h3 : lnH ln i = hi) : lo ≤ v i ∧ v i ≤ hi := by
  unfold lnB at h
  rw [h2, h3] at h
  omega
/-- a further one: what is where -/
theorem tK_new {t : Nat → Int} {ct from_ wide most r : Nat} {v : Nat → Int} (hf : t ct ≠ (most : Int)) (hr : r < wide) (hc : ct < from_) : tK t ct from_ wide most v (from_ + wide * (t ct).toNat + r) = v r := by
  unfold tK
  rw [if_neg hf]
  try simp only
  rw [if_neg (by omega), if_pos (by omega), show from_ + wide * (t ct).toNat + r - (from_ + wide * (t ct).toNat) = r by omega]
theorem tK_old {t : Nat → Int} {ct from_ wide most i : Nat} {v : Nat → Int} (hi : i ≠ ct) (hr : ¬ (from_ + wide * (t ct).toNat ≤ i ∧ i < from_ + wide * (t ct).toNat + wide)) : tK t ct from_ wide most v i = t i := by
  unfold tK
  split
  · rfl
  · simp only
    rw [if_neg hi, if_neg hr]
theorem tK_c1 {t : Nat → Int} {ct from_ wide most : Nat} {v : Nat → Int} (hf : t ct ≠ (most : Int)) : tK t ct from_ wide most v ct = t ct + 1 := by
  unfold tK
  rw [if_neg hf]
  exact if_pos rfl
end
