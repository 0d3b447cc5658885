/-! texts, as numbers: lines, faults, contents -/
/-- the place of the i-th token from a place on -/
def tkN (u : Nat → Int) (N x : Nat) : Nat → Nat
  | 0 => x
  | i + 1 => tkE u N (tkN u N x i)
/-- how many numbers a line has, and their bounds -/
def lnN (ln : Nat) : Nat := ((zTv 1).getD ln 0).toNat
def lnL (ln i : Nat) : Int := (zTv 2).getD (5 * ln + i) 0
def lnH (ln i : Nat) : Int := (zTv 3).getD (5 * ln + i) 0
/-- a number that can't be -/
def lnB (ln : Nat) (v : Nat → Int) (i : Nat) : Prop := ¬ (lnL ln i ≤ v i ∧ v i ≤ lnH ln i) ∨ (ln = 13 ∧ i = 1 ∧ v 1 < v 0) ∨ (ln = 14 ∧ i = 1 ∧ v 1 = v 0)
/-- the first fault stays -/
def nt (q : Int × Int) (c : Prop) [Decidable c] (f p : Int) : Int × Int := if q.1 = 0 ∧ c then (f, p) else q
theorem nt_f {q : Int × Int} {c : Prop} [Decidable c] {f p : Int} (h : ¬ c) : nt q c f p = q := by
  unfold nt
  rw [if_neg (fun e => h e.2)]
theorem nt_t {q : Int × Int} {c : Prop} [Decidable c] {f p : Int} (h0 : q.1 = 0) (h : c) : nt q c f p = (f, p) := by
  unfold nt
  rw [if_pos ⟨h0, h⟩]
theorem nt_n {q : Int × Int} {c : Prop} [Decidable c] {f p : Int} (h0 : ¬ q.1 = 0) : nt q c f p = q := by
  unfold nt
  rw [if_neg (fun e => h0 e.1)]
/-- the faults of the first k numbers of a line -/
noncomputable def ntL (ln : Nat) (v : Nat → Int) (p : Nat → Int) (q : Int × Int) : Nat → Int × Int
  | 0 => q
  | i + 1 => @nt (ntL ln v p q i) (lnB ln v i) (Classical.propDecidable _) 2 (p i)
/-- a sea's, a day's, a dispute's numbers as they are told: t 5, t 6 shoals and boats; t 0 deeds; t 0, t 1 sayings and aheads -/
def tU (t : Nat → Int) (j : Nat) (x : Int) : Nat → Int := fun i => if i = j then x else t i
theorem tU_at (t : Nat → Int) (j : Nat) (x : Int) : tU t j x j = x := by unfold tU; rw [if_pos rfl]
theorem tU_ne {t : Nat → Int} {j i : Nat} {x : Int} (h : i ≠ j) : tU t j x i = t i := by unfold tU; rw [if_neg h]
/-- a further one: its numbers behind those of the others -/
def tK (t : Nat → Int) (ct from_ wide most : Nat) (v : Nat → Int) : Nat → Int := if t ct = (most : Int) then t else fun i => if i = ct then t ct + 1 else if from_ + wide * (t ct).toNat ≤ i ∧ i < from_ + wide * (t ct).toNat + wide then v (i - (from_ + wide * (t ct).toNat)) else t i
/-- where a line's further one is counted, and how many may be -/
def lnC (ln : Nat) : Nat := if ln = 4 then 5 else if ln = 5 then 6 else if ln = 14 then 1 else 0
def lnM (ln : Nat) : Int := if ln = 4 then 4 else if ln = 5 then 6 else if ln = 13 then 9 else if ln = 14 then 16 else 30
def lnAdds (ln : Nat) : Prop := ln = 4 ∨ ln = 5 ∨ 7 ≤ ln
/-- a line says it -/
def lnT (ln : Nat) (v : Nat → Int) (t : Nat → Int) : Nat → Int :=
  if ln = 0 then tU (tU t 0 (v 0)) 1 (v 1)
  else if ln = 1 then tU (tU t 2 (v 0)) 3 (v 1)
  else if ln = 2 then tU t 4 (v 0)
  else if ln = 3 then tU (tU (tU (tU t (7 + 4 * (v 0).toNat) (v 1)) (7 + 4 * (v 0).toNat + 1) (v 2)) (7 + 4 * (v 0).toNat + 2) (v 3)) (7 + 4 * (v 0).toNat + 3) (v 4)
  else if ln = 4 then tK t 5 19 3 4 v
  else if ln = 5 then tK t 6 31 3 6 v
  else if ln = 6 then tU t 49 (yari 8 (t 49) (yari 5 1 (v 0)))
  else if ln = 13 then tK t 0 2 2 9 v
  else if ln = 14 then tK t 1 20 2 16 v
  else tK t 0 1 4 30 (fun i => if i = 0 then (ln : Int) - 7 else if i ≤ lnN ln then v (i - 1) else -1)
/-- the furthest cell and the furthest boat or saying that a line tells of -/
def lnFc (ln : Nat) (v : Nat → Int) (c : Int) : Int := if ln = 4 ∨ ln = 5 then max c (v 0) else c
def lnFo (ln : Nat) (v : Nat → Int) (o : Int) : Int := if ln = 6 then max o (v 0) else if ln = 14 then max o (max (v 0) (v 1)) else o
/-- words as numbers, those of a sort from the first on -/
def lnW : List Int := [1936292453, 2003398244, 1852142707, 427070419828, 495673368940, 1651466612, 1684365670, 7499639, 427020085613, 6384748, 495807392116, 7234932, 2002872692, 1935763812, 418363302244]
def lnIn (of ln : Nat) : Prop := (zTv 0).getD of 0 ≤ (ln : Int) ∧ (ln : Int) < (zTv 0).getD (of + 1) 0
/-- the line that begins at a place: 15 if there is none -/
def lnAt (u : Nat → Int) (N of x : Nat) : Nat :=
  if tkK u N x = 2 then (List.range 15).findIdx (fun ln : Nat => decide ((zTv 0).getD of 0 ≤ (ln : Int)) && decide ((ln : Int) < (zTv 0).getD (of + 1) 0) && decide (lnW.getD ln 0 = tkW u N x)) else 15
/-- what is wrong at the end -/
def lnX (of : Nat) (t : Nat → Int) (c o : Int) : Prop := (of = 0 ∧ (t 0 * t 1 ≤ c ∨ t 6 ≤ o)) ∨ (of = 2 ∧ (t 0 = 0 ∨ t 0 ≤ o))
/-- a text, line by line -/
noncomputable def pRd (u : Nat → Int) (N of : Nat) : Nat → Nat → Int × Int → (Nat → Int) → Int → Int → (Int × Int) × (Nat → Int)
  | 0, _, q, t, _, _ => (q, t)
  | n + 1, x, q, t, c, o =>
    if tkK u N x = 0 then (@nt q (lnX of t c o) (Classical.propDecidable _) 4 (tkS u N x : Nat), t)
    else if lnAt u N of x = 15 then ((1, (tkS u N x : Nat)), t)
    else if h : ∃ i, i < lnN (lnAt u N of x) ∧ tkK u N (tkN u N x (i + 1)) ≠ 3 ∧ ∀ j, j < i → tkK u N (tkN u N x (j + 1)) = 3 then ((1, (tkS u N (tkN u N x (h.choose + 1)) : Nat)), t)
    else if tkK u N (tkN u N x (lnN (lnAt u N of x) + 1)) ≠ 4 then ((1, (tkS u N (tkN u N x (lnN (lnAt u N of x) + 1)) : Nat)), t)
    else pRd u N of n (tkE u N (tkN u N x (lnN (lnAt u N of x) + 1)))
      (ntL (lnAt u N of x) (fun i => tkV u N (tkN u N x (i + 1))) (fun i => (tkS u N (tkN u N x (i + 1)) : Nat)) (@nt q (lnAdds (lnAt u N of x) ∧ t (lnC (lnAt u N of x)) = lnM (lnAt u N of x)) (Classical.propDecidable _) 3 (tkS u N x : Nat)) (lnN (lnAt u N of x)))
      (lnT (lnAt u N of x) (fun i => tkV u N (tkN u N x (i + 1))) t) (lnFc (lnAt u N of x) (fun i => tkV u N (tkN u N x (i + 1))) c) (lnFo (lnAt u N of x) (fun i => tkV u N (tkN u N x (i + 1))) o)
