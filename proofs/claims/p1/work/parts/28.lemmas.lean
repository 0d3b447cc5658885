section LPS
variable {p : Program} {l : Launch} {e : Env} {R : Room} {s : State} {m : MethodId} {args : Array Value} {below : List Frame} {meth : Method} {c : Code} {cells slots : Nat} {Q : State → Prop}
/-- a loop: from every state of its invariant, if every smaller one is well -/
theorem lp {X : Type} (meas : X → Nat) (Inv : X → Heap → List Loc → Array Slot → Prop) {pc : Nat}
    (step : ∀ (x : X) (H : Heap) (locs : List Loc) (ls : Array Slot), Inv x H locs ls → (∀ (y : X) (H' : Heap) (locs' : List Loc) (ls' : Array Slot), meas y < meas x → Inv y H' locs' ls' → W p l e R s m args below meth c H' locs' cells slots Q (F0 m pc ls' [])) → W p l e R s m args below meth c H locs cells slots Q (F0 m pc ls []))
    (x : X) (H : Heap) (locs : List Loc) (ls : Array Slot) (h : Inv x H locs ls) : W p l e R s m args below meth c H locs cells slots Q (F0 m pc ls []) := by
  have key : ∀ (n : Nat) (x : X) (H : Heap) (locs : List Loc) (ls : Array Slot), meas x < n → Inv x H locs ls → W p l e R s m args below meth c H locs cells slots Q (F0 m pc ls []) := by
    intro n
    induction n with
    | zero => intro x H locs ls h; exact absurd h (Nat.not_lt_zero _)
    | succ n ih => intro x H locs ls hm hI; exact step x H locs ls hI (fun y H' l' ls' hy hI' => ih y H' l' ls' (by omega) hI')
  exact key (meas x + 1) x H locs ls (Nat.lt_succ_self _) h
end LPS
theorem lt_of {i n : Nat} {M : Int32} (hM : M.toInt = (n : Int)) (hi : i ≤ n) (h : ¬ M ≤ nI i) : i < n := by
  have hn : n < 2 ^ 31 := by
    have := Int32.toInt_lt M
    omega
  rcases Nat.lt_or_ge i n with q | q
  · exact q
  · exfalso
    apply h
    have e : i = n := by omega
    rw [Int32.le_iff_toInt_le, hM, e, nI_toInt hn]
    exact Int.le_refl _
theorem vi_n {i n : Nat} (h : i < n) (hn : n < 2 ^ 31) : vp_in (nI i) n := vp_in_nI h hn
theorem vi_o {c : Int32} (k : Nat) {i n : Nat} (hc : c = nI k) (h : k + i < n) (hn : n < 2 ^ 31) : vp_in (c + nI i) n := by
  rw [hc, nI_add]
  exact vp_in_nI h hn
/-- the reference's 'in' -/
def inn (v a b : Int32) : Int32 := if v < a then 0 else if b < v then 0 else 1
theorem inn_no {v a b : Int32} (h : b < a) : inn v a b = 0 := by
  unfold inn
  split
  · rfl
  · rename_i h1
    split
    · rfl
    · rename_i h2
      exact absurd (Int32.le_trans (Int32.not_lt.mp h1) (Int32.not_lt.mp h2)) (Int32.not_le.mpr h)
theorem inn_0 (v : Int32) : inn v 0 (-1) = 0 := inn_no (by decide)
theorem inn_in {v a b : Int32} (h : ¬ inn v a b = 0) : ¬ v < a ∧ ¬ b < v := by
  unfold inn at h
  by_cases h1 : v < a
  · simp [h1] at h
  · by_cases h2 : b < v
    · simp [h1, h2] at h
    · exact ⟨h1, h2⟩
theorem inn_out {v a b : Int32} (h : inn v a b = 0) : v < a ∨ b < v := by
  unfold inn at h
  by_cases h1 : v < a
  · exact Or.inl h1
  · by_cases h2 : b < v
    · exact Or.inr h2
    · simp [h1, h2] at h
theorem lt3 {v : Int32} : v < 3 ↔ ¬ 2 < v := by
  rw [Int32.lt_iff_toInt_lt, Int32.lt_iff_toInt_lt, show (3 : Int32).toInt = 3 by decide, show (2 : Int32).toInt = 2 by decide]
  omega
theorem inn_i3 {v : Int32} (h : ¬ inn v 0 2 = 0) : vp_in v 3 := vi_s (M := 3) (by decide) (inn_in h).1 (lt3.mpr (inn_in h).2)
theorem inn_i12 {v : Int32} (h : ¬ inn v 0 2 = 0) : vp_in v 12 := fun q => inn_i3 h (q.elim Or.inl (fun g => Or.inr (Nat.le_trans (by decide) g)))
theorem cnt_1 {v : Int32} (h : ¬ inn v 0 2 = 0) : (0 : Int32) = if v < 0 then -2 else if v < 3 then 0 else -2 := by
  rw [if_neg (inn_in h).1, if_pos (lt3.mpr (inn_in h).2)]
theorem cnt_0 {v : Int32} (h : inn v 0 2 = 0) : (-2 : Int32) = if v < 0 then -2 else if v < 3 then 0 else -2 := by
  rcases inn_out h with q | q
  · rw [if_pos q]
  · by_cases h1 : v < 0
    · rw [if_pos h1]
    · rw [if_neg h1, if_neg (fun g => lt3.mp g q)]
theorem end_0 {v : Int32} (h : inn v 0 0 = 0) : (-1 : Int32) = if v = 0 then 0 else -1 := by
  rcases inn_out h with q | q
  · rw [if_neg (nz_lt q)]
  · rw [if_neg (nz_gt (Int32.not_le.mpr q))]
theorem end_1 {v : Int32} (h : ¬ inn v 0 0 = 0) : v = if v = 0 then 0 else -1 := by
  have e := z_of (inn_in h).1 (Int32.not_lt.mp (inn_in h).2)
  rw [if_pos e]
  exact e
