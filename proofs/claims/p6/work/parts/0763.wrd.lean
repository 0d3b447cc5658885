/-! steps and costs -/
theorem yqrF : ∀ x : Fin 64, ∀ w : Fin 8, yari 3 (x.val : Int) ((w.val : Int) + 1) = (x.val : Int) / ((w.val : Int) + 1) ∧ yari 4 (x.val : Int) ((w.val : Int) + 1) = (x.val : Int) % ((w.val : Int) + 1) := by decide +kernel
theorem yqr {x w : Int} (hx : 0 ≤ x ∧ x ≤ 63) (hw : 1 ≤ w ∧ w ≤ 8) : yari 3 x w = x / w ∧ yari 4 x w = x % w := by
  have := yqrF ⟨x.toNat, by omega⟩ ⟨(w - 1).toNat, by omega⟩
  simp only at this
  rw [show ((x.toNat : Nat) : Int) = x by omega, show (((w - 1).toNat : Nat) : Int) + 1 = w by omega] at this
  exact this
theorem yqr_b {x w : Int} (hx : 0 ≤ x ∧ x ≤ 63) (hw : 1 ≤ w ∧ w ≤ 8) : (0 ≤ x / w ∧ x / w ≤ 63) ∧ 0 ≤ x % w ∧ x % w ≤ 7 := by
  have h1 := Int.ediv_nonneg hx.1 (show 0 ≤ w by omega)
  have h2 := Int.ediv_le_self w hx.1
  have h3 := Int.emod_nonneg x (show w ≠ 0 by omega)
  have h4 := Int.emod_lt_of_pos x (show 0 < w by omega)
  omega
/-- how far against the wind -/
def agn (sd dS dE : Int) : Int := if sd = 0 then dS else if sd = 1 then -dE else if sd = 2 then -dS else dE
def cst (W sd st x y : Int) : Int := (if 0 ≤ y / W - x / W then y / W - x / W else -(y / W - x / W)) + (if 0 ≤ y % W - x % W then y % W - x % W else -(y % W - x % W)) + (if 0 < agn sd (y / W - x / W) (y % W - x % W) then agn sd (y / W - x / W) (y % W - x % W) * st else 0)
theorem cost_e {n b : Nat} {x y W sd st : Int} {h : yH} (h0 : h b 0 = W) (h2 : h b 2 = sd) (h3 : h b 3 = st) (hW : 1 ≤ W ∧ W ≤ 8) (hst : 0 ≤ st ∧ st ≤ 3) (hx : 0 ≤ x ∧ x ≤ 63) (hy : 0 ≤ y ∧ y ≤ 63) : f_X6_cost n [(b : Int), x, y] h = some (cst W sd st x y, h) := by
  obtain ⟨q1, q2⟩ := yqr hx hW
  obtain ⟨q3, q4⟩ := yqr hy hW
  obtain ⟨b1, b2⟩ := yqr_b hx hW
  obtain ⟨b3, b4⟩ := yqr_b hy hW
  rw [e_X6_cost, Int.toNat_natCast, h0, h2, if_neg (by omega), q1, q2, q3, q4]
  unfold cst agn
  generalize x / W = xr at *
  generalize x % W = xc at *
  generalize y / W = yr at *
  generalize y % W = yc at *
  have key : ∀ a : Int, -63 ≤ a ∧ a ≤ 63 → xq_X6_cost_93 n [(b : Int), x, y, yr - xr, yc - xc, a] h = some ((if 0 ≤ yr - xr then yr - xr else -(yr - xr)) + (if 0 ≤ yc - xc then yc - xc else -(yc - xc)) + (if 0 < a then a * st else 0), h) := by
    intro a ha
    rw [e_X6_cost_93, Int.toNat_natCast, h3, xg_pos (by omega), xg_pos (by omega), xg_pos (by split <;> split <;> omega)]
    by_cases c : 0 < a
    · have hm : 0 ≤ a * st ∧ a * st ≤ 189 := by
        rcases (show st = 0 ∨ st = 1 ∨ st = 2 ∨ st = 3 by omega) with e | e | e | e <;> rw [e] <;> omega
      rw [if_pos c, if_pos c, xg_pos (by omega), xg_pos (by split <;> split <;> omega)]
    · rw [if_neg c, if_neg c, Int.add_zero]
  rw [xg_pos (by omega), xg_pos (by omega), xg_pos (by omega), xg_pos (by omega), xg_pos (by omega), xg_pos (by omega)]
  by_cases c0 : sd = 0
  · rw [if_pos c0, if_pos c0, key _ (by omega)]
  rw [if_neg c0, if_neg c0]
  by_cases c1 : sd = 1
  · rw [if_pos c1, if_pos c1, xg_pos (by omega), key _ (by omega)]
  rw [if_neg c1, if_neg c1]
  by_cases c2 : sd = 2
  · rw [if_pos c2, if_pos c2, xg_pos (by omega), key _ (by omega)]
  rw [if_neg c2, if_neg c2, key _ (by omega)]
theorem greater_e {n : Nat} {v : Int} {h : yH} : f_X12_greater n [0, v] h = some (if v < 0 then 0 else v, h) := by
  rw [e_X12_greater]
  by_cases c : v < 0
  · rw [if_pos c, if_pos c]
  · rw [if_neg c, if_neg c]
def stp (W s x y : Int) : Int := if s = 0 then (if x / W - y / W < 0 then 0 else x / W - y / W) else if s = 1 then (if y % W - x % W < 0 then 0 else y % W - x % W) else if s = 2 then (if y / W - x / W < 0 then 0 else y / W - x / W) else (if x % W - y % W < 0 then 0 else x % W - y % W)
theorem stp_b {W s x y : Int} (hW : 1 ≤ W ∧ W ≤ 8) (hx : 0 ≤ x ∧ x ≤ 63) (hy : 0 ≤ y ∧ y ≤ 63) : 0 ≤ stp W s x y ∧ stp W s x y ≤ 63 := by
  obtain ⟨b1, b2⟩ := yqr_b hx hW
  obtain ⟨b3, b4⟩ := yqr_b hy hW
  unfold stp
  generalize x / W = xr at *
  generalize x % W = xc at *
  generalize y / W = yr at *
  generalize y % W = yc at *
  split
  · split <;> omega
  · split
    · split <;> omega
    · split <;> split <;> omega
theorem stepsTo_e {n : Nat} {x y s W : Int} {g : yH} (h24 : g 35 24 = W) (hW : 1 ≤ W ∧ W ≤ 8) (hx : 0 ≤ x ∧ x ≤ 63) (hy : 0 ≤ y ∧ y ≤ 63) : f_X12_stepsTo n [35, x, y, s] g = some (stp W s x y, g) := by
  obtain ⟨q1, q2⟩ := yqr hx hW
  obtain ⟨q3, q4⟩ := yqr hy hW
  obtain ⟨b1, b2⟩ := yqr_b hx hW
  obtain ⟨b3, b4⟩ := yqr_b hy hW
  rw [e_X12_stepsTo, h24, q1, q2, q3, q4]
  unfold stp
  generalize x / W = xr at *
  generalize x % W = xc at *
  generalize y / W = yr at *
  generalize y % W = yc at *
  by_cases c0 : s = 0
  · rw [if_pos c0, if_pos c0, xg_pos (by omega), xg_pos (by omega), xg_pos (by omega), greater_e, xb_some]
  rw [if_neg c0, if_neg c0]
  by_cases c1 : s = 1
  · rw [if_pos c1, if_pos c1, xg_pos (by omega), xg_pos (by omega), xg_pos (by omega), greater_e, xb_some]
  rw [if_neg c1, if_neg c1]
  by_cases c2 : s = 2
  · rw [if_pos c2, if_pos c2, xg_pos (by omega), xg_pos (by omega), xg_pos (by omega), greater_e, xb_some]
  rw [if_neg c2, if_neg c2, xg_pos (by omega), xg_pos (by omega), xg_pos (by omega), greater_e, xb_some]
theorem yq4F : ∀ s : Fin 4, yari 4 ((s.val : Int) + 2) 4 = ((s.val : Int) + 2) % 4 := by decide +kernel
theorem costOf_e {n : Nat} {x y W sd st : Int} {g : yH} (hn : 5 ≤ n) (h24 : g 35 24 = W) (h26 : g 35 26 = sd) (h27 : g 35 27 = st) (hW : 1 ≤ W ∧ W ≤ 8) (hsd : 0 ≤ sd ∧ sd ≤ 3) (hst : 0 ≤ st ∧ st ≤ 3) (hx : 0 ≤ x ∧ x ≤ 63) (hy : 0 ≤ y ∧ y ≤ 63) : f_X12_costOf n [35, x, y] g = some (cst W sd st x y, g) := by
  obtain ⟨n, rfl⟩ : ∃ n', n = n' + 5 := ⟨n - 5, by omega⟩
  have q := yq4F ⟨sd.toNat, by omega⟩
  simp only at q
  rw [show ((sd.toNat : Nat) : Int) = sd by omega] at q
  have sb := fun s => stp_b (s := s) hW hx hy
  have s0 := sb 0
  have s1 := sb 1
  have s2 := sb 2
  have s3 := sb 3
  have sa := sb ((sd + 2) % 4)
  have hm : 0 ≤ st * stp W ((sd + 2) % 4) x y ∧ st * stp W ((sd + 2) % 4) x y ≤ 189 := by
    rcases (show st = 0 ∨ st = 1 ∨ st = 2 ∨ st = 3 by omega) with e | e | e | e <;> rw [e] <;> omega
  rw [e_X12_costOf, h26, h27, xg_pos (by omega), q, stepsTo_e h24 hW hx hy, xb_some, xg_pos (by omega)]
  rw [e_X12_costOf_23, if_pos (by decide), stepsTo_e h24 hW hx hy, xb_some, xg_pos (by omega), xg_pos (by omega)]
  rw [e_X12_costOf_23, if_pos (by decide), stepsTo_e h24 hW hx hy, xb_some, show (0 : Int) + 1 = 1 from rfl, xg_pos (by omega), xg_pos (by omega)]
  rw [e_X12_costOf_23, if_pos (by decide), stepsTo_e h24 hW hx hy, xb_some, show (1 : Int) + 1 = 2 from rfl, xg_pos (by omega), xg_pos (by omega)]
  rw [e_X12_costOf_23, if_pos (by decide), stepsTo_e h24 hW hx hy, xb_some, show (2 : Int) + 1 = 3 from rfl, xg_pos (by omega), xg_pos (by omega)]
  rw [e_X12_costOf_23, if_neg (by decide)]
  congr 2
  clear q s0 s1 s2 s3 sa sb hm
  obtain ⟨b1, b2⟩ := yqr_b hx hW
  obtain ⟨b3, b4⟩ := yqr_b hy hW
  unfold cst agn
  rcases (show sd = 0 ∨ sd = 1 ∨ sd = 2 ∨ sd = 3 by omega) with rfl | rfl | rfl | rfl
  all_goals
    unfold stp
    generalize x / W = xr at *
    generalize x % W = xc at *
    generalize y / W = yr at *
    generalize y % W = yc at *
    rcases (show st = 0 ∨ st = 1 ∨ st = 2 ∨ st = 3 by omega) with rfl | rfl | rfl | rfl
    all_goals
      simp
      omega
