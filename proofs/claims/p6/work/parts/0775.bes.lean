/-! beside a cell -/
def besV (W H p s : Int) : Int := if s = 0 then (if 0 < p / W then p - W else -1) else if s = 1 then (if p % W < W - 1 then p + 1 else -1) else if s = 2 then (if p / W < H - 1 then p + W else -1) else if s = 3 then (if 0 < p % W then p - 1 else -1) else -1
theorem W_c {W : Int} (h : 2 ≤ W ∧ W ≤ 8) : W = 2 ∨ W = 3 ∨ W = 4 ∨ W = 5 ∨ W = 6 ∨ W = 7 ∨ W = 8 := by omega
theorem besV_b {W H p s : Int} (hW : 2 ≤ W ∧ W ≤ 8) (hH : 2 ≤ H ∧ H ≤ 8) (hp : 0 ≤ p ∧ p < W * H) : besV W H p s = -1 ∨ (0 ≤ besV W H p s ∧ besV W H p s < W * H) := by
  unfold besV
  rcases W_c hW with rfl | rfl | rfl | rfl | rfl | rfl | rfl <;>
  · split
    · split <;> omega
    · split
      · split <;> omega
      · split
        · split <;> omega
        · split
          · split <;> omega
          · omega
theorem pW_63 {W H p : Int} (hW : 2 ≤ W ∧ W ≤ 8) (hH : 2 ≤ H ∧ H ≤ 8) (hp : 0 ≤ p ∧ p < W * H) : 0 ≤ p ∧ p ≤ 63 := by
  have := Int.mul_le_mul hW.2 hH.2 (by omega) (by omega)
  have e : (8 : Int) * 8 = 64 := by decide
  omega
theorem besC_e {n b : Nat} {p s W H : Int} {h : yH} (h0 : h b 0 = W) (h1 : h b 1 = H) (hW : 2 ≤ W ∧ W ≤ 8) (hH : 2 ≤ H ∧ H ≤ 8) (hp : 0 ≤ p ∧ p < W * H) : f_X6_beside n [(b : Int), p, s] h = some (besV W H p s, h) := by
  have p63 := pW_63 hW hH hp
  obtain ⟨q1, q2⟩ := yqr p63 (show 1 ≤ W ∧ W ≤ 8 by omega)
  obtain ⟨b1, b2⟩ := yqr_b p63 (show 1 ≤ W ∧ W ≤ 8 by omega)
  rw [e_X6_beside, e_X6_rowOf, Int.toNat_natCast, h0, if_neg (by omega), xg_pos (by omega), xb_some, e_X6_columnOf, Int.toNat_natCast, h0, if_neg (by omega), xg_pos (by omega), xb_some, h0, h1, q1, q2]
  unfold besV
  by_cases c0 : s = 0
  · rw [if_pos c0, if_pos c0]
    by_cases c : 0 < p / W
    · rw [if_pos c, if_pos c, xg_pos (by omega)]
    · rw [if_neg c, if_neg c]
  rw [if_neg c0, if_neg c0]
  by_cases c1 : s = 1
  · rw [if_pos c1, if_pos c1, xg_pos (by omega)]
    by_cases c : p % W < W - 1
    · rw [if_pos c, if_pos c, xg_pos (by omega)]
    · rw [if_neg c, if_neg c]
  rw [if_neg c1, if_neg c1]
  by_cases c2 : s = 2
  · rw [if_pos c2, if_pos c2, xg_pos (by omega)]
    by_cases c : p / W < H - 1
    · rw [if_pos c, if_pos c, xg_pos (by omega)]
    · rw [if_neg c, if_neg c]
  rw [if_neg c2, if_neg c2]
  by_cases c3 : s = 3
  · rw [if_pos c3, if_pos c3]
    by_cases c : 0 < p % W
    · rw [if_pos c, if_pos c, xg_pos (by omega)]
    · rw [if_neg c, if_neg c]
  rw [if_neg c3, if_neg c3]
theorem drC_e {n b : Nat} {p s W H : Int} {h : yH} (h0 : h b 0 = W) (h1 : h b 1 = H) (hW : 2 ≤ W ∧ W ≤ 8) (hH : 2 ≤ H ∧ H ≤ 8) (hp : 0 ≤ p ∧ p < W * H) : f_X6_drifted n [(b : Int), p, s] h = some (if besV W H p s = -1 then p else besV W H p s, h) := by
  rw [e_X6_drifted, besC_e h0 h1 hW hH hp, xb_some]
  by_cases c : besV W H p s = -1
  · rw [if_pos c, if_pos c]
  · rw [if_neg c, if_neg c]
theorem besV_0 {W H p : Int} : besV W H p 0 = (if 0 < p / W then p - W else -1) := if_pos rfl
theorem besV_1 {W H p : Int} : besV W H p 1 = (if p % W < W - 1 then p + 1 else -1) := by
  unfold besV
  rw [if_neg (by decide), if_pos rfl]
theorem besV_2 {W H p : Int} : besV W H p 2 = (if p / W < H - 1 then p + W else -1) := by
  unfold besV
  rw [if_neg (by decide), if_neg (by decide), if_pos rfl]
theorem besV_3 {W H p : Int} : besV W H p 3 = (if 0 < p % W then p - 1 else -1) := by
  unfold besV
  rw [if_neg (by decide), if_neg (by decide), if_neg (by decide), if_pos rfl]
theorem besR_51 {n : Nat} {x1 x2 x dy y W H : Int} {g : yH} (h24 : g 35 24 = W) (h25 : g 35 25 = H) (hW : 2 ≤ W ∧ W ≤ 8) (hH : 2 ≤ H ∧ H ≤ 8) (hx : -1 ≤ x ∧ x ≤ 8) (hy : -1 ≤ y + dy ∧ y + dy ≤ 64) : xq_X12_beside_51 n [35, x1, x2, x, dy, y] g = some (if (0 ≤ x ∧ x ≤ W - 1) ∧ 0 ≤ y + dy ∧ y + dy ≤ H - 1 then (y + dy) * W + x else -1, g) := by
  rw [e_X12_beside_51, h24, xg_pos (by omega), xg_pos (by omega)]
  by_cases c1 : 0 ≤ x ∧ x ≤ W - 1
  · rw [in_t c1, xb_some, if_neg (by decide), h25, xg_pos (by omega)]
    by_cases c2 : 0 ≤ y + dy ∧ y + dy ≤ H - 1
    · have m1 := Int.mul_le_mul (show y + dy ≤ 7 by omega) hW.2 (by omega) (by omega)
      have m0 := Int.mul_nonneg c2.1 (show 0 ≤ W by omega)
      have e : (7 : Int) * 8 = 56 := by decide
      rw [in_t c2, xb_some, if_neg (by decide), h24, if_pos ⟨c1, c2⟩]
      generalize (y + dy) * W = z at *
      rw [xg_pos (by omega), xg_pos (by omega)]
    · rw [in_f c2, xb_some, if_pos rfl, if_neg (fun q => c2 q.2)]
  · rw [in_f c1, xb_some, if_pos rfl, if_neg (fun q => c1 q.1)]
theorem besR_e {n : Nat} {p s W H : Int} {g : yH} (h24 : g 35 24 = W) (h25 : g 35 25 = H) (hW : 2 ≤ W ∧ W ≤ 8) (hH : 2 ≤ H ∧ H ≤ 8) (hp : 0 ≤ p ∧ p < W * H) (hs : 0 ≤ s ∧ s ≤ 3) : f_X12_beside n [35, p, s] g = some (besV W H p s, g) := by
  have p63 := pW_63 hW hH hp
  obtain ⟨q1, q2⟩ := yqr p63 (show 1 ≤ W ∧ W ≤ 8 by omega)
  obtain ⟨b1, b2⟩ := yqr_b p63 (show 1 ≤ W ∧ W ≤ 8 by omega)
  have fin : ∀ x dy : Int, -1 ≤ dy ∧ dy ≤ 1 → -1 ≤ x ∧ x ≤ 8 → xq_X12_beside_51 n [35, p, s, x, dy, p / W] g = some (if (0 ≤ x ∧ x ≤ W - 1) ∧ 0 ≤ p / W + dy ∧ p / W + dy ≤ H - 1 then (p / W + dy) * W + x else -1, g) := fun x dy h1 h2 => besR_51 h24 h25 hW hH h2 (by omega)
  rw [e_X12_beside, h24, xg_pos (by omega), q2]
  rcases (show s = 0 ∨ s = 1 ∨ s = 2 ∨ s = 3 by omega) with rfl | rfl | rfl | rfl
  · rw [if_neg (by decide), if_neg (by decide), e_X12_beside_25, h24, xg_pos (by omega), xg_pos (by omega), if_neg (by decide), if_pos rfl, q1, fin _ _ (by omega) (by omega)]
    congr 2
    rw [besV_0]
    rcases W_c hW with rfl | rfl | rfl | rfl | rfl | rfl | rfl <;>
    · split <;> split <;> omega
  · rw [if_pos rfl, e_X12_beside_25, h24, xg_pos (by omega), xg_pos (by omega), if_neg (by decide), if_neg (by decide), q1, fin _ _ (by omega) (by omega)]
    congr 2
    rw [besV_1]
    rcases W_c hW with rfl | rfl | rfl | rfl | rfl | rfl | rfl <;>
    · split <;> split <;> omega
  · rw [if_neg (by decide), if_neg (by decide), e_X12_beside_25, h24, xg_pos (by omega), xg_pos (by omega), if_pos rfl, q1, fin _ _ (by omega) (by omega)]
    congr 2
    rw [besV_2]
    rcases W_c hW with rfl | rfl | rfl | rfl | rfl | rfl | rfl <;>
    · split <;> split <;> omega
  · rw [if_neg (by decide), if_pos rfl, e_X12_beside_25, h24, xg_pos (by omega), xg_pos (by omega), if_neg (by decide), if_neg (by decide), q1, fin _ _ (by omega) (by omega)]
    congr 2
    rw [besV_3]
    rcases W_c hW with rfl | rfl | rfl | rfl | rfl | rfl | rfl <;>
    · split <;> split <;> omega
