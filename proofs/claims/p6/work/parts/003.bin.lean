/-! operations of two numbers, and what a comparison tells -/
def zsem (op : Nat) (x y : Int32) : Int32 := match op with
  | 0 => x + y
  | 1 => x - y
  | 2 => x * y
  | 3 => x / y
  | 4 => x % y
  | 5 => x <<< (y &&& 31)
  | 6 => x >>> (y &&& 31)
  | 7 => x &&& y
  | 8 => x ||| y
  | _ => x ^^^ y
def zbin (op : Nat) (q r : zIV) : Option zIV := match op with
  | 0 => some (zfit (q.1 + r.1, q.2 + r.2))
  | 1 => some (zfit (q.1 - r.2, q.2 - r.1))
  | 2 => some (zfit (min (min (q.1 * r.1) (q.1 * r.2)) (min (q.2 * r.1) (q.2 * r.2)), max (max (q.1 * r.1) (q.1 * r.2)) (max (q.2 * r.1) (q.2 * r.2))))
  | 3 => if 1 ≤ r.1 then some (if 0 ≤ q.1 then (0, q.2 / r.1) else (min 0 q.1, max 0 q.2)) else none
  | 4 => if 1 ≤ r.1 then some (if 0 ≤ q.1 then (0, min q.2 (r.2 - 1)) else (-(r.2 - 1), r.2 - 1)) else none
  | 5 => some (if q.1 = 1 ∧ q.2 = 1 ∧ 0 ≤ r.1 ∧ r.2 ≤ 30 then (((2 ^ r.1.toNat : Nat) : Int), ((2 ^ r.2.toNat : Nat) : Int)) else ztop)
  | 6 => some (if 0 ≤ q.1 then (0, q.2) else ztop)
  | 7 => some (if 0 ≤ r.1 then (if 0 ≤ q.1 then (0, min q.2 r.2) else (0, r.2)) else if 0 ≤ q.1 then (0, q.2) else ztop)
  | 8 => some (if 0 ≤ q.1 ∧ 0 ≤ r.1 ∧ q.2 ≤ 2147483647 ∧ r.2 ≤ 2147483647 then (max q.1 r.1, (zmask (max q.2 r.2).toNat : Nat)) else ztop)
  | _ => some (if 0 ≤ q.1 ∧ 0 ≤ r.1 ∧ q.2 ≤ 2147483647 ∧ r.2 ≤ 2147483647 then (0, (zmask (max q.2 r.2).toNat : Nat)) else ztop)
theorem z_top (r : Int32) : ztop.1 ≤ r.toInt ∧ r.toInt ≤ ztop.2 := ⟨z_lo r, z_hi r⟩
theorem z_ediv {x y X r : Int} (hx : 0 ≤ x) (h1 : x ≤ X) (hr : 1 ≤ r) (hy : r ≤ y) : x / y ≤ X / r := by
  have e1 : 0 ≤ x / y := Int.ediv_nonneg hx (by omega)
  have e2 : x / y * y ≤ x := Int.ediv_mul_le x (by omega)
  have e3 : x / y * r ≤ x / y * y := Int.mul_le_mul_of_nonneg_left hy e1
  exact (Int.le_ediv_iff_mul_le (by omega)).mpr (by omega)
theorem z_bin {op : Nat} {q r z : zIV} {x y : Int32} (h : zbin op q r = some z) (hx : q.1 ≤ x.toInt ∧ x.toInt ≤ q.2) (hy : r.1 ≤ y.toInt ∧ y.toInt ≤ r.2) : z.1 ≤ (zsem op x y).toInt ∧ (zsem op x y).toInt ≤ z.2 := by
  unfold zbin at h
  split at h
  · cases h
    exact z_fit (v := x.toInt + y.toInt) (by simp only; omega) (by simp only; omega) (fun a b => z_add a b)
  · cases h
    exact z_fit (v := x.toInt - y.toInt) (by simp only; omega) (by simp only; omega) (fun a b => z_sub a b)
  · cases h
    have := z_mulb hx.1 hx.2 hy.1 hy.2
    exact z_fit (v := x.toInt * y.toInt) this.1 this.2 (fun a b => z_mul a b)
  · split at h
    · rename_i h1
      cases h
      show _ ≤ (x / y).toInt ∧ (x / y).toInt ≤ _
      rw [z_div (by omega)]
      split
      · rename_i h0
        rw [Int.tdiv_eq_ediv_of_nonneg (by omega)]
        exact ⟨Int.ediv_nonneg (by omega) (by omega), z_ediv (by omega) hx.2 h1 hy.1⟩
      · have e : x.toInt.tdiv y.toInt ≤ max 0 x.toInt ∧ min 0 x.toInt ≤ x.toInt.tdiv y.toInt := by
          rcases Int.le_total 0 x.toInt with hx | hx
          · have a1 := Int.tdiv_nonneg hx (show (0 : Int) ≤ y.toInt by omega)
            have a2 := Int.tdiv_le_self y.toInt hx
            omega
          · have hn : 0 ≤ -x.toInt := by omega
            have a1 := Int.tdiv_nonneg hn (show (0 : Int) ≤ y.toInt by omega)
            have a2 := Int.tdiv_le_self y.toInt hn
            rw [Int.neg_tdiv] at a1 a2
            omega
        simp only
        omega
    · cases h
  · split at h
    · rename_i h1
      cases h
      show _ ≤ (x % y).toInt ∧ (x % y).toInt ≤ _
      rw [Int32.toInt_mod]
      have hpos : 0 < y.toInt := by omega
      split
      · rename_i h0
        have a1 : x.toInt.tmod y.toInt = x.toInt % y.toInt := Int.tmod_eq_emod_of_nonneg (by omega)
        have a2 := Int.emod_nonneg x.toInt (show y.toInt ≠ 0 by omega)
        have a3 := Int.emod_lt_of_pos x.toInt hpos
        have d : 0 ≤ x.toInt / y.toInt := Int.ediv_nonneg (by omega) (by omega)
        have d2 : 0 ≤ y.toInt * (x.toInt / y.toInt) := Int.mul_nonneg (by omega) d
        have a4 : x.toInt % y.toInt ≤ x.toInt := by rw [Int.emod_def]; omega
        simp only
        omega
      · have a1 := Int.tmod_lt_of_pos x.toInt hpos
        have a2 := Int.lt_tmod_of_pos x.toInt hpos
        simp only
        omega
    · cases h
  · cases h
    split
    · rename_i h1
      obtain ⟨e1, e2, e3, e4⟩ := h1
      have ex : x = 1 := by
        have : x.toInt = (1 : Int32).toInt := by
          rw [show (1 : Int32).toInt = 1 from rfl]; omega
        exact Int32.toInt_inj.mp this
      subst ex
      show _ ≤ ((1 : Int32) <<< (y &&& 31)).toInt ∧ ((1 : Int32) <<< (y &&& 31)).toInt ≤ _
      rw [z_shl (by omega) (by omega)]
      simp only
      exact ⟨by exact_mod_cast Nat.pow_le_pow_right (by omega) (by omega), by exact_mod_cast Nat.pow_le_pow_right (by omega) (by omega)⟩
    · exact z_top _
  · cases h
    split
    · have := z_shr (x := x) (y := y &&& 31) (by omega)
      show _ ≤ (x >>> (y &&& 31)).toInt ∧ (x >>> (y &&& 31)).toInt ≤ _
      simp only
      omega
    · exact z_top _
  · cases h
    show _ ≤ (x &&& y).toInt ∧ (x &&& y).toInt ≤ _
    split
    · have a1 := z_and (x := x) (y := y) (by omega)
      split
      · have a2 := z_andl (x := x) (y := y) (by omega)
        simp only
        omega
      · simp only
        omega
    · split
      · have := z_andl (x := x) (y := y) (by omega)
        simp only
        omega
      · exact z_top _
  · cases h
    show _ ≤ (x ||| y).toInt ∧ (x ||| y).toInt ≤ _
    split
    · rename_i h1
      have := z_or (x := x) (y := y) (n := (max q.2 r.2).toNat) (by omega) (by omega) (by omega) (by omega) (by omega)
      simp only
      omega
    · exact z_top _
  · cases h
    have e : zsem op x y = x ^^^ y := by
      unfold zsem
      split <;> first | rfl | (exfalso; simp_all; done)
    rw [e]
    split
    · rename_i h1
      have := z_xor (x := x) (y := y) (n := (max q.2 r.2).toNat) (by omega) (by omega) (by omega) (by omega) (by omega)
      simp only
      omega
    · exact z_top _
/-- comparisons: 0 <, 1 ≥, 2 >, 3 ≤, 4 =, 5 ≠ -/
def zcmp (cd : Nat) (x y : Int) : Prop := match cd with
  | 0 => x < y
  | 1 => y ≤ x
  | 2 => y < x
  | 3 => x ≤ y
  | 4 => x = y
  | _ => x ≠ y
def zneq (q r : zIV) : zIV := if r.1 = r.2 then (if q.1 = r.1 then q.1 + 1 else q.1, if q.2 = r.1 then q.2 - 1 else q.2) else q
/-- the bounds behind a comparison that holds -/
def zref (cd : Nat) (q r : zIV) : zIV × zIV := match cd with
  | 0 => ((q.1, min q.2 (r.2 - 1)), (max r.1 (q.1 + 1), r.2))
  | 1 => ((max q.1 r.1, q.2), (r.1, min r.2 q.2))
  | 2 => ((max q.1 (r.1 + 1), q.2), (r.1, min r.2 (q.2 - 1)))
  | 3 => ((q.1, min q.2 r.2), (max r.1 q.1, r.2))
  | 4 => ((max q.1 r.1, min q.2 r.2), (max q.1 r.1, min q.2 r.2))
  | _ => (zneq q r, zneq r q)
theorem z_neq {q r : zIV} {x y : Int} (h : x ≠ y) (hx : q.1 ≤ x ∧ x ≤ q.2) (hy : r.1 ≤ y ∧ y ≤ r.2) : (zneq q r).1 ≤ x ∧ x ≤ (zneq q r).2 := by
  unfold zneq
  split
  · simp only
    constructor <;> split <;> omega
  · exact hx
theorem z_ref {cd : Nat} {q r : zIV} {x y : Int} (h : zcmp cd x y) (hx : q.1 ≤ x ∧ x ≤ q.2) (hy : r.1 ≤ y ∧ y ≤ r.2) : ((zref cd q r).1.1 ≤ x ∧ x ≤ (zref cd q r).1.2) ∧ (zref cd q r).2.1 ≤ y ∧ y ≤ (zref cd q r).2.2 := by
  unfold zcmp at h
  unfold zref
  split at h
  · simp only; omega
  · simp only; omega
  · simp only; omega
  · simp only; omega
  · simp only; omega
  · exact ⟨z_neq h hx hy, z_neq (fun e => h e.symm) hy hx⟩
/-- the other outcome -/
def znot (cd : Nat) : Nat := match cd with
  | 0 => 1
  | 1 => 0
  | 2 => 3
  | 3 => 2
  | 4 => 5
  | _ => 4
theorem z_not {cd : Nat} {x y : Int} (h : ¬ zcmp cd x y) : zcmp (znot cd) x y := by
  unfold zcmp at h
  unfold znot
  split at h
  · show y ≤ x; omega
  · show x < y; omega
  · show x ≤ y; omega
  · show y < x; omega
  · show x ≠ y; exact h
  · show x = y; omega
