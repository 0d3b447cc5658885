/-! the reference: cells, the tape's bytes, token -/
theorem zup_eq {h : yH} {a j b i : Nat} {x : Int} (h1 : b = a) (h2 : i = j) : zup h a j x b i = x := by
  subst h1
  subst h2
  exact zup_at h _ _ x
theorem zup_app (h : yH) (a j : Nat) (x : Int) (b i : Nat) : zup h a j x b i = if b = a ∧ i = j then x else h b i := rfl
theorem zup_self (h : yH) (a j : Nat) : zup h a j (h a j) = h := by
  funext b i
  simp only [zup_app]
  split
  · rename_i e
    rw [e.1, e.2]
  · rfl
theorem tB_i {c : Int} : tB c = true ↔ c = 10 ∨ c = 32 := by simp [tB]
theorem tL_i {c : Int} : tL c = true ↔ 97 ≤ c ∧ c ≤ 122 := by simp [tL]
theorem tD_i {c : Int} : tD c = true ↔ 48 ≤ c ∧ c ≤ 57 := by simp [tD]
theorem y_and255 (x : Int) : 0 ≤ yari 7 x 255 ∧ yari 7 x 255 ≤ 255 := by
  have := z_and (x := Int32.ofInt x) (y := Int32.ofInt 255) (by decide)
  have e : (Int32.ofInt 255).toInt = 255 := by decide
  rw [e] at this
  exact this
/-- the tape's bytes -/
def uR (h : yH) (i : Nat) : Int := yari 7 (h 0 i) 255
theorem uR_b (h : yH) (i : Nat) : 0 ≤ uR h i ∧ uR h i ≤ 255 := y_and255 _
theorem uR_up {h : yH} {a j : Nat} {x : Int} (ha : a ≠ 0) : uR (zup h a j x) = uR h := by
  funext i
  unfold uR
  rw [zup_ne (fun q => ha q.1.symm)]
theorem in_t {n : Nat} {v lo hi : Int} {h : yH} (h1 : lo ≤ v ∧ v ≤ hi) : f_X12_in n [v, lo, hi] h = some (1, h) := by
  rw [e_X12_in, if_neg (by omega), if_neg (by omega)]
theorem in_f {n : Nat} {v lo hi : Int} {h : yH} (h1 : ¬ (lo ≤ v ∧ v ≤ hi)) : f_X12_in n [v, lo, hi] h = some (0, h) := by
  rw [e_X12_in]
  by_cases h2 : v < lo
  · rw [if_pos h2]
  · rw [if_neg h2, if_pos (by omega)]
theorem see_lt {n : Nat} {h : yH} (h1 : h 35 1 = 0) (h2 : 0 ≤ h 35 9) (h3 : h 35 9 < h 35 10) (h4 : h 35 10 ≤ 600) : f_X12_see n [35] h = some (uR h (h 35 9).toNat, h) := by
  rw [e_X12_see, if_pos h3, xg_pos h1, xg_pos ⟨h2, by omega⟩]
  rfl
theorem see_end {n : Nat} {h : yH} (h3 : ¬ h 35 9 < h 35 10) : f_X12_see n [35] h = some (-1, h) := by
  rw [e_X12_see, if_neg h3]
theorem gr_e {n : Nat} {a b : Int} {h : yH} : f_X12_greater n [a, b] h = some (max a b, h) := by
  rw [e_X12_greater]
  by_cases h1 : b < a
  · rw [if_pos h1, Int.max_eq_left (by omega)]
  · rw [if_neg h1, Int.max_eq_right (by omega)]
theorem fails_e {n : Nat} {h : yH} : f_X12_fails n [35] h = some (0, zup h 35 15 (h 35 11)) := e_X12_fails
theorem tDg_b {u : Nat → Int} {s k : Nat} (hk : k < 2) (h : ∀ i, i < k → 48 ≤ u (s + i) ∧ u (s + i) ≤ 57) : 0 ≤ tDg u s k ∧ tDg u s k ≤ 9 := by
  rcases (show k = 0 ∨ k = 1 by omega) with rfl | rfl
  · simp [tDg]
  · have := h 0 (by omega)
    simp only [tDg]
    rw [if_pos (by omega)]
    omega
theorem tDg_99 {u : Nat → Int} {s : Nat} : ∀ {k : Nat}, (∀ i, i < k → 48 ≤ u (s + i) ∧ u (s + i) ≤ 57) → 0 ≤ tDg u s k ∧ tDg u s k ≤ 99 := by
  intro k
  induction k with
  | zero => intro _; simp [tDg]
  | succ k ih =>
    intro h
    have h1 := ih (fun i hi => h i (by omega))
    simp only [tDg]
    split
    · rename_i hk
      have := tDg_b hk (fun i hi => h i (by omega))
      have := h k (by omega)
      omega
    · exact h1
theorem y_bvi {x : Int64} (h : x.toBitVec.toNat < 9223372036854775808) : x.toInt = (x.toBitVec.toNat : Int) := by
  have e : x.toInt = x.toBitVec.toInt := rfl
  rw [BitVec.toInt_eq_toNat_cond] at e
  split at e <;> omega
theorem y_bvo {k : Nat} (h : k < 9223372036854775808) : (Int64.ofInt (k : Int)).toBitVec.toNat = k := by
  have e : (Int64.ofInt (k : Int)).toBitVec = BitVec.ofInt 64 (k : Int) := rfl
  rw [e, BitVec.ofInt_natCast, BitVec.toNat_ofNat]
  omega
theorem y_lsh {w c : Int} (h1 : 0 ≤ w) (h2 : w < 36028797018963968) (h3 : 0 ≤ c) (h4 : c < 256) : ylor (ylshl w 8) c = w * 256 + c := by
  obtain ⟨k, rfl⟩ : ∃ k : Nat, w = (k : Int) := ⟨w.toNat, by omega⟩
  obtain ⟨d, rfl⟩ : ∃ d : Nat, c = (d : Int) := ⟨c.toNat, by omega⟩
  have e8 : ((Int32.ofInt 8).toInt64 &&& 63) = (8 : Int64) := by decide
  have eb : ((8 : Int64).toBitVec.smod 64) = 8#64 := by decide
  have e1 : (Int64.ofInt (k : Int) <<< (8 : Int64)).toBitVec.toNat = k * 256 := by
    rw [Int64.toBitVec_shiftLeft, eb, BitVec.shiftLeft_eq', BitVec.toNat_shiftLeft, y_bvo (by omega), Nat.shiftLeft_eq]
    show k * 2 ^ 8 % 2 ^ 64 = _
    omega
  have e2 : ylshl (k : Int) 8 = ((k * 256 : Nat) : Int) := by
    unfold ylshl
    rw [e8, y_bvi (by rw [e1]; omega), e1]
  have e3 : (Int64.ofInt ((k * 256 : Nat) : Int) ||| Int64.ofInt (d : Int)).toBitVec.toNat = k * 256 + d := by
    rw [Int64.toBitVec_or, BitVec.toNat_or, y_bvo (by omega), y_bvo (by omega)]
    have := Nat.shiftLeft_add_eq_or_of_lt (i := 8) (b := d) (by omega) k
    rw [Nat.shiftLeft_eq, show (2 : Nat) ^ 8 = 256 from rfl] at this
    omega
  unfold ylor
  rw [e2, y_bvi (by rw [e3]; omega), e3]
  omega
theorem tok_dig {u : Nat → Int} {N s : Nat} {c : Int} (hN : N ≤ 600) : ∀ (m k n : Nat) (h : yH), N - (s + k) = m → m < n → uR h = u → h 35 1 = 0 → h 35 10 = (N : Int) → h 35 9 = ((s + k : Nat) : Int) → s + k ≤ N → h 35 13 = tDg u s k → (∀ i, i < k → 48 ≤ u (s + i) ∧ u (s + i) ≤ 57) →
    ∃ h2, xl_X12_token n 163 [35, c, (k : Int)] h = some (0, h2) ∧ h2 35 9 = ((tGo tD u N (s + k) : Nat) : Int) ∧ h2 35 12 = (if 2 < tGo tD u N (s + k) - s then 1 else 3) ∧ h2 35 13 = tDg u s (tGo tD u N (s + k) - s) ∧ ∀ a j, ¬ (a = 35 ∧ (j = 9 ∨ j = 12 ∨ j = 13)) → h2 a j = h a j := by
  intro m
  induction m with
  | zero =>
    intro k n h e1 e2 hu hp h10 h9 hk hv hd
    obtain ⟨n, rfl⟩ : ∃ n', n = n' + 1 := ⟨n - 1, by omega⟩
    rw [e_X12_token_163, see_end (by omega), xb_some, in_f (by omega), xb_some, if_pos rfl, tGo_stop (by omega), show s + k - s = k by omega]
    by_cases hc : 2 < k
    · rw [if_pos (by omega), if_pos hc]
      exact ⟨_, rfl, by rw [zup_ne (by omega)]; exact h9, zup_at _ _ _ _, by rw [zup_ne (by omega)]; exact hv, fun a j q => zup_ne (by omega)⟩
    · rw [if_neg (by omega), if_neg hc]
      exact ⟨_, rfl, by rw [zup_ne (by omega)]; exact h9, zup_at _ _ _ _, by rw [zup_ne (by omega)]; exact hv, fun a j q => zup_ne (by omega)⟩
  | succ m ih =>
    intro k n h e1 e2 hu hp h10 h9 hk hv hd
    obtain ⟨n, rfl⟩ : ∃ n', n = n' + 1 := ⟨n - 1, by omega⟩
    rw [e_X12_token_163, see_lt hp (by omega) (by omega) (by omega), xb_some]
    have e9 : (h 35 9).toNat = s + k := by omega
    rw [hu, e9]
    by_cases hc : tD (u (s + k)) = true
    · have q := tD_i.mp hc
      have hb := uR_b h (s + k)
      rw [hu] at hb
      have hgo : tGo tD u N (s + k) = tGo tD u N (s + (k + 1)) := tGo_step (by omega) hc
      have hd1 : ∀ i, i < k + 1 → 48 ≤ u (s + i) ∧ u (s + i) ≤ 57 := fun i hi => by
        by_cases hik : i = k
        · subst hik; exact q
        · exact hd i (by omega)
      have h99 := tDg_99 hd1
      rw [in_t q, xb_some, if_neg (by omega)]
      have fin : ∃ h2, xl_X12_token n 163 [35, c, (k : Int) + 1] (zup (zup h 35 13 (tDg u s (k + 1))) 35 9 (h 35 9 + 1)) = some (0, h2) ∧ h2 35 9 = ((tGo tD u N (s + k) : Nat) : Int) ∧ h2 35 12 = (if 2 < tGo tD u N (s + k) - s then 1 else 3) ∧ h2 35 13 = tDg u s (tGo tD u N (s + k) - s) ∧ ∀ a j, ¬ (a = 35 ∧ (j = 9 ∨ j = 12 ∨ j = 13)) → h2 a j = h a j := by
        rw [hgo]
        obtain ⟨h2, r0, r1, r2, r3, r4⟩ := ih (k + 1) n (zup (zup h 35 13 (tDg u s (k + 1))) 35 9 (h 35 9 + 1)) (by omega) (by omega) (by rw [uR_up (by decide), uR_up (by decide), hu]) (by rw [zup_ne (by omega), zup_ne (by omega)]; exact hp) (by rw [zup_ne (by omega), zup_ne (by omega)]; exact h10) (by rw [zup_at]; omega) (by omega) (by rw [zup_ne (by omega), zup_at]) hd1
        exact ⟨h2, r0, r1, r2, r3, fun a j q => by rw [r4 a j q, zup_ne (by omega), zup_ne (by omega)]⟩
      by_cases hk2 : k < 2
      · have ev : 10 * h 35 13 + u (s + k) - 48 = tDg u s (k + 1) := by
          simp only [tDg]
          rw [if_pos hk2, hv]
          omega
        have hb9 := tDg_b hk2 hd
        rw [if_pos (by omega), xg_pos (by omega), see_lt hp (by omega) (by omega) (by omega), xb_some, hu, e9, xg_pos (by omega), xg_pos (by omega), xg_pos (by omega), xg_pos (by omega), xg_pos (by omega), xg_pos (by omega), ev]
        exact fin
      · have ev : h 35 13 = tDg u s (k + 1) := by
          simp only [tDg]
          rw [if_neg hk2, hv]
        rw [if_neg (by omega), xg_pos (by omega), xg_pos (by omega), xg_pos (by omega), xg_pos (by omega), ev]
        exact fin
    · have hst : ¬ (48 ≤ u (s + k) ∧ u (s + k) ≤ 57) := fun q => hc (tD_i.mpr q)
      rw [in_f hst, xb_some, if_pos rfl, tGo_stop (fun q => hc q.2), show s + k - s = k by omega]
      by_cases hc : 2 < k
      · rw [if_pos (by omega), if_pos hc]
        exact ⟨_, rfl, by rw [zup_ne (by omega)]; exact h9, zup_at _ _ _ _, by rw [zup_ne (by omega)]; exact hv, fun a j q => zup_ne (by omega)⟩
      · rw [if_neg (by omega), if_neg hc]
        exact ⟨_, rfl, by rw [zup_ne (by omega)]; exact h9, zup_at _ _ _ _, by rw [zup_ne (by omega)]; exact hv, fun a j q => zup_ne (by omega)⟩
theorem tPk_c {u : Nat → Int} {s k : Nat} (hk : k ≤ 7) (h : ∀ i, i < k → 97 ≤ u (s + i) ∧ u (s + i) ≤ 122) : 0 ≤ tPk u s k ∧ tPk u s k < 36028797018963968 := by
  have g : ∀ i, i < k → 97 ≤ u (s + i) ∧ u (s + i) ≤ 122 := h
  rcases (show k = 0 ∨ k = 1 ∨ k = 2 ∨ k = 3 ∨ k = 4 ∨ k = 5 ∨ k = 6 ∨ k = 7 by omega) with rfl | rfl | rfl | rfl | rfl | rfl | rfl | rfl
  all_goals
    have h0 := g 0
    have h1 := g 1
    have h2 := g 2
    have h3 := g 3
    have h4 := g 4
    have h5 := g 5
    have h6 := g 6
    simp only [tPk]
    try simp at h0 h1 h2 h3 h4 h5 h6
    try simp only [Nat.add_zero]
    omega
theorem tok_let {u : Nat → Int} {N s : Nat} {c : Int} (hN : N ≤ 600) : ∀ (m k n : Nat) (h : yH), N - (s + k) = m → m < n → uR h = u → h 35 1 = 0 → h 35 10 = (N : Int) → h 35 9 = ((s + k : Nat) : Int) → s + k ≤ N → (k ≤ 8 → h 35 14 = tPk u s k) → (∀ i, i < k → 97 ≤ u (s + i) ∧ u (s + i) ≤ 122) →
    ∃ h2, xl_X12_token n 74 [35, c, (k : Int)] h = some (0, h2) ∧ h2 35 9 = ((tGo tL u N (s + k) : Nat) : Int) ∧ h2 35 12 = 2 ∧ h2 35 14 = (if 8 < tGo tL u N (s + k) - s then 0 else tPk u s (tGo tL u N (s + k) - s)) ∧ ∀ a j, ¬ (a = 35 ∧ (j = 9 ∨ j = 12 ∨ j = 14)) → h2 a j = h a j := by
  intro m
  induction m with
  | zero =>
    intro k n h e1 e2 hu hp h10 h9 hk hv hd
    obtain ⟨n, rfl⟩ : ∃ n', n = n' + 1 := ⟨n - 1, by omega⟩
    rw [e_X12_token_74, see_end (by omega), xb_some, in_f (by omega), xb_some, if_pos rfl, tGo_stop (by omega), show s + k - s = k by omega]
    by_cases hc : 8 < k
    · rw [if_pos (by omega), if_pos hc]
      exact ⟨_, rfl, by rw [zup_ne (by omega), zup_ne (by omega)]; exact h9, zup_at _ _ _ _, by rw [zup_ne (by omega), zup_at], fun a j q => by rw [zup_ne (by omega), zup_ne (by omega)]⟩
    · rw [if_neg (by omega), if_neg hc]
      exact ⟨_, rfl, by rw [zup_ne (by omega), zup_ne (by omega)]; exact h9, zup_at _ _ _ _, by rw [zup_ne (by omega), zup_at]; exact hv (by omega), fun a j q => by rw [zup_ne (by omega), zup_ne (by omega)]⟩
  | succ m ih =>
    intro k n h e1 e2 hu hp h10 h9 hk hv hd
    obtain ⟨n, rfl⟩ : ∃ n', n = n' + 1 := ⟨n - 1, by omega⟩
    rw [e_X12_token_74, see_lt hp (by omega) (by omega) (by omega), xb_some]
    have e9 : (h 35 9).toNat = s + k := by omega
    rw [hu, e9]
    by_cases hc : tL (u (s + k)) = true
    · have q := tL_i.mp hc
      have hgo : tGo tL u N (s + k) = tGo tL u N (s + (k + 1)) := tGo_step (by omega) hc
      have hd1 : ∀ i, i < k + 1 → 97 ≤ u (s + i) ∧ u (s + i) ≤ 122 := fun i hi => by
        by_cases hik : i = k
        · subst hik; exact q
        · exact hd i (by omega)
      rw [in_t q, xb_some, if_neg (by omega), see_lt hp (by omega) (by omega) (by omega), xb_some, hu, e9, xg_pos (by omega), xg_pos (by omega), xg_pos (by omega), hgo]
      obtain ⟨h2, r0, r1, r2, r3, r4⟩ := ih (k + 1) n (zup (zup h 35 14 (ylor (ylshl (h 35 14) 8) (u (s + k)))) 35 9 (h 35 9 + 1)) (by omega) (by omega) (by rw [uR_up (by decide), uR_up (by decide), hu]) (by rw [zup_ne (by omega), zup_ne (by omega)]; exact hp) (by rw [zup_ne (by omega), zup_ne (by omega)]; exact h10) (by rw [zup_at]; omega) (by omega) (fun hk8 => by
        rw [zup_ne (by omega), zup_at, hv (by omega)]
        have hb := tPk_c (by omega) hd
        simp only [tPk]
        exact y_lsh hb.1 (by omega) (by omega) (by omega)) hd1
      exact ⟨h2, r0, r1, r2, r3, fun a j q => by rw [r4 a j q, zup_ne (by omega), zup_ne (by omega)]⟩
    · have hst : ¬ (97 ≤ u (s + k) ∧ u (s + k) ≤ 122) := fun q => hc (tL_i.mpr q)
      rw [in_f hst, xb_some, if_pos rfl, tGo_stop (fun q => hc q.2), show s + k - s = k by omega]
      by_cases hc : 8 < k
      · rw [if_pos (by omega), if_pos hc]
        exact ⟨_, rfl, by rw [zup_ne (by omega), zup_ne (by omega)]; exact h9, zup_at _ _ _ _, by rw [zup_ne (by omega), zup_at], fun a j q => by rw [zup_ne (by omega), zup_ne (by omega)]⟩
      · rw [if_neg (by omega), if_neg hc]
        exact ⟨_, rfl, by rw [zup_ne (by omega), zup_ne (by omega)]; exact h9, zup_at _ _ _ _, by rw [zup_ne (by omega), zup_at]; exact hv (by omega), fun a j q => by rw [zup_ne (by omega), zup_ne (by omega)]⟩
/-- what token() leaves -/
def tokF (h h2 : yH) : Prop := ∀ a j, ¬ (a = 35 ∧ (j = 9 ∨ (11 ≤ j ∧ j ≤ 14))) → h2 a j = h a j
/-- the token at a place is the one that is read -/
def tokA (u : Nat → Int) (N x : Nat) (h : yH) : Prop := h 35 9 = (tkE u N x : Nat) ∧ h 35 11 = (tkS u N x : Nat) ∧ h 35 12 = (tkK u N x : Nat) ∧ (tkK u N x = 3 → h 35 13 = tkV u N x) ∧ (tkK u N x = 2 → h 35 14 = tkW u N x)
theorem tok_e {u : Nat → Int} {N : Nat} (hN : N ≤ 600) : ∀ (m x n : Nat) (h : yH), N - x = m → m + 700 < n → uR h = u → h 35 1 = 0 → h 35 10 = (N : Int) → h 35 9 = (x : Int) → x ≤ N → ∃ h2, xl_X12_token n 0 [35] h = some (0, h2) ∧ tokA u N x h2 ∧ tokF h h2 := by
  intro m
  induction m with
  | zero =>
    intro x n h e1 e2 hu hp h10 h9 hx
    obtain ⟨n, rfl⟩ : ∃ n', n = n' + 1 := ⟨n - 1, by omega⟩
    have hS : tkS u N x = x := tGo_stop (by omega)
    have hE : tkE u N x = x := by unfold tkE; rw [hS, if_pos (by omega)]
    have hK : tkK u N x = 0 := by unfold tkK; rw [hS, if_pos (by omega)]
    rw [e_X12_token_0, see_end (by omega), xb_some, if_neg (by omega), see_end (by omega), xb_some, if_neg (by omega), xg_pos (by omega), see_end (by rw [zup_ne (by omega), zup_ne (by omega)]; omega), xb_some, if_pos (by omega)]
    refine ⟨_, rfl, ⟨?_, ?_, ?_, ?_, ?_⟩, ?_⟩
    · rw [hE, zup_ne (by omega), zup_ne (by omega), zup_ne (by omega)]; exact h9
    · rw [hS, zup_ne (by omega), zup_ne (by omega), zup_at]; exact h9
    · rw [hK, zup_at]; rfl
    · intro q; omega
    · intro q; omega
    · intro a j q
      rw [zup_ne (by omega), zup_ne (by omega), zup_ne (by omega)]
  | succ m ih =>
    intro x n h e1 e2 hu hp h10 h9 hx
    obtain ⟨n, rfl⟩ : ∃ n', n = n' + 1 := ⟨n - 1, by omega⟩
    have e9 : (h 35 9).toNat = x := by omega
    have hb := uR_b h x
    rw [hu] at hb
    rw [e_X12_token_0, see_lt hp (by omega) (by omega) (by omega), xb_some, hu, e9]
    by_cases hB : tB (u x) = true
    · have hstep : tkS u N x = tkS u N (x + 1) := tGo_step (by omega) hB
      have hA : ∀ h2, tokA u N (x + 1) h2 → tokA u N x h2 := by
        intro h2
        unfold tokA tkE tkK tkV tkW tkE
        rw [hstep]
        exact fun q => q
      have fin : ∃ h2, xl_X12_token n 0 [35] (zup h 35 9 (h 35 9 + 1)) = some (0, h2) ∧ tokA u N x h2 ∧ tokF h h2 := by
        obtain ⟨h2, r0, r1, r2⟩ := ih (x + 1) n (zup h 35 9 (h 35 9 + 1)) (by omega) (by omega) (by rw [uR_up (by decide), hu]) (by rw [zup_ne (by omega)]; exact hp) (by rw [zup_ne (by omega)]; exact h10) (by rw [zup_at]; omega) (by omega)
        exact ⟨h2, r0, hA h2 r1, fun a j q => by rw [r2 a j q, zup_ne (by omega)]⟩
      rcases tB_i.mp hB with hc | hc
      · rw [if_pos hc, xg_pos (by omega), xg_pos (by omega)]
        exact fin
      · rw [if_neg (by omega), see_lt hp (by omega) (by omega) (by omega), xb_some, hu, e9, if_pos hc, xg_pos (by omega), xg_pos (by omega)]
        exact fin
    · have hnb : ¬ (u x = 10 ∨ u x = 32) := fun q => hB (tB_i.mpr q)
      have hS : tkS u N x = x := tGo_stop (fun q => hB q.2)
      rw [if_neg (by omega), see_lt hp (by omega) (by omega) (by omega), xb_some, hu, e9, if_neg (by omega), xg_pos (by omega), see_lt (by rw [zup_ne (by omega)]; exact hp) (by rw [zup_ne (by omega)]; omega) (by rw [zup_ne (by omega), zup_ne (by omega)]; omega) (by rw [zup_ne (by omega)]; omega), xb_some, uR_up (by decide), hu, zup_ne (by omega), e9, if_neg (by omega)]
      by_cases hL : tL (u x) = true
      · have q := tL_i.mp hL
        rw [in_t q, xb_some, if_neg (by omega)]
        obtain ⟨h2, r0, r1, r2, r3, r4⟩ := tok_let (c := u x) (s := x) hN (N - (x + 0)) 0 n (zup (zup h 35 11 (h 35 9)) 35 14 0) rfl (by omega) (by rw [uR_up (by decide), uR_up (by decide), hu]) (by rw [zup_ne (by omega), zup_ne (by omega)]; exact hp) (by rw [zup_ne (by omega), zup_ne (by omega)]; exact h10) (by rw [zup_ne (by omega), zup_ne (by omega)]; exact h9) (by omega) (fun _ => by rw [zup_at]; rfl) (fun i hi => by omega)
        have hE : tkE u N x = tGo tL u N (x + 0) := by unfold tkE; rw [hS, if_neg (by omega), if_pos hL]; rfl
        have hK : tkK u N x = 2 := by unfold tkK; rw [hS, if_neg (by omega), if_pos hL]
        refine ⟨h2, r0, ⟨?_, ?_, ?_, ?_, ?_⟩, ?_⟩
        · rw [hE]; exact r1
        · rw [hS, r4 35 11 (by omega), zup_ne (by omega), zup_at]; exact h9
        · rw [hK]; exact r2
        · intro q; omega
        · intro _
          unfold tkW
          rw [hE, hS]
          exact r3
        · intro a j q
          rw [r4 a j (by omega), zup_ne (by omega), zup_ne (by omega)]
      · have hnl : ¬ (97 ≤ u x ∧ u x ≤ 122) := fun q => hL (tL_i.mpr q)
        rw [in_f hnl, xb_some, if_pos rfl]
        by_cases hD : tD (u x) = true
        · have q := tD_i.mp hD
          rw [in_t q, xb_some, if_neg (by omega)]
          obtain ⟨h2, r0, r1, r2, r3, r4⟩ := tok_dig (c := u x) (s := x) hN (N - (x + 0)) 0 n (zup (zup (zup h 35 11 (h 35 9)) 35 14 0) 35 13 0) rfl (by omega) (by rw [uR_up (by decide), uR_up (by decide), uR_up (by decide), hu]) (by rw [zup_ne (by omega), zup_ne (by omega), zup_ne (by omega)]; exact hp) (by rw [zup_ne (by omega), zup_ne (by omega), zup_ne (by omega)]; exact h10) (by rw [zup_ne (by omega), zup_ne (by omega), zup_ne (by omega)]; exact h9) (by omega) (by rw [zup_at]; rfl) (fun i hi => by omega)
          have hE : tkE u N x = tGo tD u N (x + 0) := by unfold tkE; rw [hS, if_neg (by omega), if_neg hL, if_pos hD]; rfl
          have hK : tkK u N x = if tGo tD u N (x + 0) - x ≤ 2 then 3 else 1 := by unfold tkK; rw [hS, if_neg (by omega), if_neg hL, if_pos hD]; rfl
          refine ⟨h2, r0, ⟨?_, ?_, ?_, ?_, ?_⟩, ?_⟩
          · rw [hE]; exact r1
          · rw [hS, r4 35 11 (by omega), zup_ne (by omega), zup_ne (by omega), zup_at]; exact h9
          · rw [hK, r2]
            split
            · rw [if_neg (by omega)]; rfl
            · rw [if_pos (by omega)]; rfl
          · intro _
            unfold tkV
            rw [hE, hS]
            exact r3
          · intro q
            rw [hK] at q
            split at q <;> omega
          · intro a j q
            rw [r4 a j (by omega), zup_ne (by omega), zup_ne (by omega), zup_ne (by omega)]
        · have hnd : ¬ (48 ≤ u x ∧ u x ≤ 57) := fun q => hD (tD_i.mpr q)
          have e99 : zup (zup h 35 11 (h 35 9)) 35 14 0 35 9 = h 35 9 := by rw [zup_ne (by omega), zup_ne (by omega)]
          rw [in_f hnd, xb_some, if_pos rfl, e99, xg_pos (by omega), xg_pos (by omega)]
          have hE : tkE u N x = x + 1 := by unfold tkE; rw [hS, if_neg (by omega), if_neg hL, if_neg hD]
          by_cases h59 : u x = 59
          · have hK : tkK u N x = 4 := by unfold tkK; rw [hS, if_neg (by omega), if_neg hL, if_neg hD, if_pos h59]
            rw [if_pos h59]
            refine ⟨_, rfl, ⟨?_, ?_, ?_, ?_, ?_⟩, ?_⟩
            · rw [hE, zup_ne (by omega), zup_at]; omega
            · rw [hS, zup_ne (by omega), zup_ne (by omega), zup_ne (by omega), zup_at]; exact h9
            · rw [hK, zup_at]; rfl
            · intro q; omega
            · intro q; omega
            · intro a j q
              rw [zup_ne (by omega), zup_ne (by omega), zup_ne (by omega), zup_ne (by omega)]
          · have hK : tkK u N x = 1 := by unfold tkK; rw [hS, if_neg (by omega), if_neg hL, if_neg hD, if_neg h59]
            rw [if_neg h59]
            refine ⟨_, rfl, ⟨?_, ?_, ?_, ?_, ?_⟩, ?_⟩
            · rw [hE, zup_ne (by omega), zup_at]; omega
            · rw [hS, zup_ne (by omega), zup_ne (by omega), zup_ne (by omega), zup_at]; exact h9
            · rw [hK, zup_at]; rfl
            · intro q; omega
            · intro q; omega
            · intro a j q
              rw [zup_ne (by omega), zup_ne (by omega), zup_ne (by omega), zup_ne (by omega)]
theorem token_e {u : Nat → Int} {N x n : Nat} {h : yH} (hn : 1400 ≤ n) (hN : N ≤ 600) (hu : uR h = u) (hp : h 35 1 = 0) (h10 : h 35 10 = (N : Int)) (h9 : h 35 9 = (x : Int)) (hx : x ≤ N) : ∃ h2, f_X12_token n [35] h = some (0, h2) ∧ tokA u N x h2 ∧ tokF h h2 := by
  rw [e_X12_token]
  exact tok_e hN (N - x) x n h rfl (by omega) hu hp h10 h9 hx
