section
/-! The checker: abstract states. A number is a symbol and an offset; a symbol has bounds; a reference is a number too (-1: null); a cell of the heap has a kind. -/
abbrev zAV : Type := Nat × Nat × Int
abbrev zIV : Type := Int × Int
abbrev zOV : Type := (Nat × Nat) × Nat × zAV
abbrev zAS : Type := List zIV × List (Nat × zAV) × List zAV × List zOV × List (Nat × Nat × Int)
abbrev zKD : Type := Nat × Nat × Nat × List (Nat × Int × Int)
/-- names of cells: from a name to its address and back -/
abbrev zRn : Type := (Nat → Nat) × (Nat → Nat)
def zrf (η : zRn) (x : Int) : Option Nat := if x < 0 then none else some (η.1 x.toNat)
def zdec (η : zRn) (t : Nat) (x : Int) : Value := match t with
  | 0 => .int (Int32.ofInt x)
  | 1 => .long (Int64.ofInt x)
  | _ + 2 => va_rf (zrf η x)
def zok (Θ : Nat → Option Nat) (t : Nat) (x : Int) : Prop := match t with
  | 0 => -2147483648 ≤ x ∧ x ≤ 2147483647
  | 1 => -9223372036854775808 ≤ x ∧ x ≤ 9223372036854775807
  | k + 2 => x = -1 ∨ (0 ≤ x ∧ Θ x.toNat = some k)
/-- the type of a kind's slot: tag, least, most -/
def zty (K : zKD) (j : Nat) : Nat × Int × Int := K.2.2.2.getD (j % K.2.2.2.length) (0, 0, -1)
def zE (η : zRn) (cy : Nat → ClassId) (K : zKD) (g : Nat → Int) : va_E := match K.1 with
  | 0 => .inr (K.2.1, (List.range K.2.2.1).map (fun j => zdec η (zty K j).1 (g j)))
  | 1 => .inl (cy K.2.1, K.2.2.1, .inl (fun j => Int32.ofInt (g j)))
  | _ => .inl (cy K.2.1, K.2.2.1, .inr (.inr (.inr (.inr (fun j => zrf η (g j))))))
/-- the heap holds the cells of Θ, with the contents h -/
def zf (η : zRn) (kds : List zKD) (cy : Nat → ClassId) (Θ : Nat → Option Nat) (h : Nat → Nat → Int) (a : Nat) : va_E := zE η cy (kds.getD ((Θ a).getD 0) (0, 0, 0, [])) (h a)
/-- the cell at an address -/
def zF (η : zRn) (kds : List zKD) (cy : Nat → ClassId) (Θ : Nat → Option Nat) (h : Nat → Nat → Int) (q : Nat) : va_E := zf η kds cy Θ h (η.2 q)
def zH (η : zRn) (kds : List zKD) (D : va_G) (cl : List vw_C) (cy : Nat → ClassId) (L : List Nat) (Θ : Nat → Option Nat) (h : Nat → Nat → Int) (H : Heap) : Prop :=
  va_P D cl ([] ++ va_pl L (zF η kds cy Θ h)) H ∧ (∀ q ∈ L, η.1 (η.2 q) = q) ∧ ∀ a k, Θ a = some k → ∃ K, kds[k]? = some K ∧ (K.1 ≤ 2 → η.1 a ∈ L ∧ η.2 (η.1 a) = a) ∧ ∀ j, j < K.2.2.1 → zok Θ (zty K j).1 (h a j) ∧ (zty K j).2.1 ≤ h a j ∧ h a j ≤ (zty K j).2.2
/-- slots from a place to a place of a kind are among those that may change -/
def zinE (eff : List (Nat × Nat × Nat)) (k lo hi : Nat) : Bool := eff.any (fun e => decide (e.1 = k) && decide (e.2.1 ≤ lo) && decide (hi ≤ e.2.2))
def zev (σ : List Int) (a : zAV) : Int := σ.getD a.2.1 0 + a.2.2
def zvo (η : zRn) (σ : List Int) (a : zAV) : Value := zdec η a.1 (zev σ a)
def zga (Θ : Nat → Option Nat) (σ : List Int) (a : zAV) : Prop := a.2.1 < σ.length ∧ zok Θ a.1 (zev σ a)
def zge (σ : List Int) (env : List zIV) : Prop := σ.length = env.length ∧ ∀ i q, env[i]? = some q → q.1 ≤ σ.getD i 0 ∧ σ.getD i 0 ≤ q.2
def zgv (Θ : Nat → Option Nat) (h : Nat → Nat → Int) (σ : List Int) (ov : List zOV) : Prop :=
  ∀ o ∈ ov, o.1.2 < σ.length ∧ zga Θ σ o.2.2 ∧ 0 ≤ σ.getD o.1.2 0 ∧ Θ (σ.getD o.1.2 0).toNat = some o.1.1 ∧ h (σ.getD o.1.2 0).toNat o.2.1 = zev σ o.2.2
def zgr (σ : List Int) (rel : List (Nat × Nat × Int)) : Prop := ∀ r ∈ rel, r.1 < σ.length ∧ r.2.1 < σ.length ∧ σ.getD r.2.1 0 + r.2.2 ≤ σ.getD r.1 0
/-- the abstract state says the truth of this state -/
def zG (η : zRn) (kds : List zKD) (D : va_G) (cl : List vw_C) (cy : Nat → ClassId) (L : List Nat) (Θ : Nat → Option Nat) (h0 : Nat → Nat → Int) (eff : List (Nat × Nat × Nat)) (A : Nat → Prop) (H0 : Heap) (nL : Nat) (as : zAS) (σ : List Int) (h : Nat → Nat → Int) (H : Heap) (locs : List Loc) (ls : Array Slot) : Prop :=
  zge σ as.1 ∧ (∀ q ∈ as.2.1, zga Θ σ q.2) ∧ lv_has ls nL (as.2.1.map fun q => (q.1, zvo η σ q.2)) ∧ (∀ a ∈ as.2.2.1, zga Θ σ a) ∧ zgv Θ h σ as.2.2.2.1 ∧ zgr σ as.2.2.2.2 ∧ zH η kds D cl cy L Θ h H ∧ va_S A H0 H locs ∧ (∀ a k j, Θ a = some k → zinE eff k j j = false → h a j = h0 a j)
variable {η : zRn}
/-! lists -/
theorem z_gd {σ τ : List Int} {i : Nat} (h : i < σ.length) : (σ ++ τ).getD i 0 = σ.getD i 0 := by
  simp [List.getD_eq_getElem?_getD, List.getElem?_append_left h]
theorem z_gl {σ : List Int} {x : Int} : (σ ++ [x]).getD σ.length 0 = x := by
  simp [List.getD_eq_getElem?_getD]
theorem z_ev {σ τ : List Int} {a : zAV} (h : a.2.1 < σ.length) : zev (σ ++ τ) a = zev σ a := by
  unfold zev; rw [z_gd h]
theorem z_vo {σ τ : List Int} {a : zAV} (h : a.2.1 < σ.length) : zvo η (σ ++ τ) a = zvo η σ a := by
  unfold zvo; rw [z_ev h]
theorem z_ga {Θ : Nat → Option Nat} {σ τ : List Int} {a : zAV} (h : zga Θ σ a) : zga Θ (σ ++ τ) a :=
  ⟨by rw [List.length_append]; have := h.1; omega, by rw [z_ev h.1]; exact h.2⟩
theorem z_gv {Θ : Nat → Option Nat} {h : Nat → Nat → Int} {σ τ : List Int} {ov : List zOV} (g : zgv Θ h σ ov) : zgv Θ h (σ ++ τ) ov := by
  intro o ho
  obtain ⟨h1, h2, h3, h4, h5⟩ := g o ho
  refine ⟨by rw [List.length_append]; omega, z_ga h2, ?_⟩
  rw [z_gd h1, z_ev h2.1]
  exact ⟨h3, h4, h5⟩
theorem z_gr {σ τ : List Int} {rel : List (Nat × Nat × Int)} (g : zgr σ rel) : zgr (σ ++ τ) rel := by
  intro r hr
  obtain ⟨h1, h2, h3⟩ := g r hr
  refine ⟨by rw [List.length_append]; omega, by rw [List.length_append]; omega, ?_⟩
  rw [z_gd h1, z_gd h2]
  exact h3
theorem z_ge {σ : List Int} {env : List zIV} {x : Int} {q : zIV} (g : zge σ env) (h1 : q.1 ≤ x) (h2 : x ≤ q.2) : zge (σ ++ [x]) (env ++ [q]) := by
  refine ⟨by simp [g.1], fun i r hr => ?_⟩
  rcases Nat.lt_or_ge i env.length with hi | hi
  · rw [List.getElem?_append_left hi] at hr
    rw [z_gd (by rw [g.1]; exact hi)]
    exact g.2 i r hr
  · rw [List.getElem?_append_right hi] at hr
    have e : i = env.length := by
      have := (List.getElem?_eq_some_iff.mp hr).1
      simp at this; omega
    subst e
    simp at hr
    subst hr
    rw [show env.length = σ.length from g.1.symm, z_gl]
    exact ⟨h1, h2⟩
theorem z_lv {nL : Nat} {ls : Array Slot} {σ τ : List Int} {Θ : Nat → Option Nat} {loc : List (Nat × zAV)} (g : ∀ q ∈ loc, zga Θ σ q.2) (h : lv_has ls nL (loc.map fun q => (q.1, zvo η σ q.2))) : lv_has ls nL (loc.map fun q => (q.1, zvo η (σ ++ τ) q.2)) := by
  have e : (loc.map fun q => (q.1, zvo η (σ ++ τ) q.2)) = loc.map fun q => (q.1, zvo η σ q.2) := List.map_congr_left fun q hq => by rw [z_vo (g q hq).1]
  rw [e]; exact h
theorem z_st {σ τ : List Int} {Θ : Nat → Option Nat} {st : List zAV} (g : ∀ a ∈ st, zga Θ σ a) : st.map (zvo η (σ ++ τ)) = st.map (zvo η σ) := List.map_congr_left fun a ha => z_vo (g a ha).1
theorem z_len {σ : List Int} {env : List zIV} {x : Int} (g : zge σ env) : env.length < (σ ++ [x]).length := by simp [g.1]
theorem z_gn {σ : List Int} {env : List zIV} {x : Int} (g : zge σ env) : (σ ++ [x]).getD env.length 0 = x := by rw [← g.1]; exact z_gl
/-- a symbol's bounds, narrowed -/
theorem z_set {σ : List Int} {env : List zIV} {i : Nat} {q : zIV} (g : zge σ env) (h1 : q.1 ≤ σ.getD i 0) (h2 : σ.getD i 0 ≤ q.2) : zge σ (env.set i q) := by
  refine ⟨by simp [g.1], fun j r hr => ?_⟩
  by_cases e : i = j
  · subst e
    rw [List.getElem?_set] at hr
    simp at hr
    obtain ⟨_, rfl⟩ := hr
    exact ⟨h1, h2⟩
  · rw [List.getElem?_set_ne e] at hr
    exact g.2 j r hr
/-- bounds of an abstract value -/
def ziv (env : List zIV) (a : zAV) : Option zIV := match env[a.2.1]? with
  | some q => some (q.1 + a.2.2, q.2 + a.2.2)
  | none => none
theorem z_iv {σ : List Int} {env : List zIV} {a : zAV} {q : zIV} (g : zge σ env) (h : ziv env a = some q) : q.1 ≤ zev σ a ∧ zev σ a ≤ q.2 := by
  unfold ziv at h
  split at h
  · rename_i r hr
    cases h
    have := g.2 _ _ hr
    unfold zev
    simp only
    omega
  · cases h
theorem z_ivl {σ : List Int} {env : List zIV} {a : zAV} {q : zIV} (g : zge σ env) (h : ziv env a = some q) : a.2.1 < σ.length := by
  unfold ziv at h
  split at h
  · rename_i r hr
    rw [g.1]
    exact (List.getElem?_eq_some_iff.mp hr).1
  · cases h
/-! numbers -/
theorem z_toi {x : Int} (h1 : -2147483648 ≤ x) (h2 : x ≤ 2147483647) : (Int32.ofInt x).toInt = x := by
  rw [Int32.toInt_ofInt]
  exact Int.bmod_eq_of_le (by simp only [Int32.size]; omega) (by simp only [Int32.size]; omega)
theorem z_ofi (x : Int32) : Int32.ofInt x.toInt = x := by
  simp
theorem z_lo (x : Int32) : -2147483648 ≤ x.toInt := Int32.le_toInt x
theorem z_hi (x : Int32) : x.toInt ≤ 2147483647 := by
  have := Int32.toInt_lt x
  omega
theorem z_lo64 (x : Int64) : -9223372036854775808 ≤ x.toInt := Int64.le_toInt x
theorem z_hi64 (x : Int64) : x.toInt ≤ 9223372036854775807 := by
  have := Int64.toInt_lt x
  omega
theorem z_ofi64 (x : Int64) : Int64.ofInt x.toInt = x := by
  simp
end
section
/-! what the operations do to bounds -/
def ztop : zIV := (-2147483648, 2147483647)
def zin (q : zIV) : Bool := decide (-2147483648 ≤ q.1) && decide (q.2 ≤ 2147483647)
def zfit (q : zIV) : zIV := if zin q = true then q else ztop
theorem z_in {q : zIV} (h : zin q = true) : -2147483648 ≤ q.1 ∧ q.2 ≤ 2147483647 := by
  unfold zin at h
  simpa using h
theorem z_fit {q : zIV} {v : Int} {r : Int32} (h1 : q.1 ≤ v) (h2 : v ≤ q.2) (hr : -2147483648 ≤ v → v ≤ 2147483647 → r.toInt = v) : (zfit q).1 ≤ r.toInt ∧ r.toInt ≤ (zfit q).2 := by
  unfold zfit
  split
  · rename_i h
    have := z_in h
    rw [hr (by omega) (by omega)]
    exact ⟨h1, h2⟩
  · exact ⟨z_lo r, z_hi r⟩
theorem z_add {x y : Int32} (h1 : -2147483648 ≤ x.toInt + y.toInt) (h2 : x.toInt + y.toInt ≤ 2147483647) : (x + y).toInt = x.toInt + y.toInt := by
  rw [Int32.toInt_add]
  exact Int.bmod_eq_of_le (by omega) (by omega)
theorem z_sub {x y : Int32} (h1 : -2147483648 ≤ x.toInt - y.toInt) (h2 : x.toInt - y.toInt ≤ 2147483647) : (x - y).toInt = x.toInt - y.toInt := by
  rw [Int32.toInt_sub]
  exact Int.bmod_eq_of_le (by omega) (by omega)
theorem z_mul {x y : Int32} (h1 : -2147483648 ≤ x.toInt * y.toInt) (h2 : x.toInt * y.toInt ≤ 2147483647) : (x * y).toInt = x.toInt * y.toInt := by
  rw [Int32.toInt_mul]
  exact Int.bmod_eq_of_le (by omega) (by omega)
theorem z_neg {x : Int32} (h1 : -2147483648 ≤ -x.toInt) (h2 : -x.toInt ≤ 2147483647) : (-x).toInt = -x.toInt := by
  rw [Int32.toInt_neg]
  exact Int.bmod_eq_of_le (by omega) (by omega)
theorem z_mulb {x y a A b B : Int} (h1 : a ≤ x) (h2 : x ≤ A) (h3 : b ≤ y) (h4 : y ≤ B) : min (min (a * b) (a * B)) (min (A * b) (A * B)) ≤ x * y ∧ x * y ≤ max (max (a * b) (a * B)) (max (A * b) (A * B)) := by
  rcases Int.le_total 0 y with hy | hy
  · have e1 : a * y ≤ x * y := Int.mul_le_mul_of_nonneg_right h1 hy
    have e2 : x * y ≤ A * y := Int.mul_le_mul_of_nonneg_right h2 hy
    have e3 : min (a * b) (a * B) ≤ a * y := by
      rcases Int.le_total 0 a with ha | ha
      · have := Int.mul_le_mul_of_nonneg_left h3 ha; omega
      · have := Int.mul_le_mul_of_nonpos_left ha h4; omega
    have e4 : A * y ≤ max (A * b) (A * B) := by
      rcases Int.le_total 0 A with ha | ha
      · have := Int.mul_le_mul_of_nonneg_left h4 ha; omega
      · have := Int.mul_le_mul_of_nonpos_left ha h3; omega
    omega
  · have e1 : A * y ≤ x * y := Int.mul_le_mul_of_nonpos_right h2 hy
    have e2 : x * y ≤ a * y := Int.mul_le_mul_of_nonpos_right h1 hy
    have e3 : min (A * b) (A * B) ≤ A * y := by
      rcases Int.le_total 0 A with ha | ha
      · have := Int.mul_le_mul_of_nonneg_left h3 ha; omega
      · have := Int.mul_le_mul_of_nonpos_left ha h4; omega
    have e4 : a * y ≤ max (a * b) (a * B) := by
      rcases Int.le_total 0 a with ha | ha
      · have := Int.mul_le_mul_of_nonneg_left h4 ha; omega
      · have := Int.mul_le_mul_of_nonpos_left ha h3; omega
    omega
theorem z_div {x y : Int32} (hy : 1 ≤ y.toInt) : (x / y).toInt = x.toInt.tdiv y.toInt := by
  rw [Int32.toInt_div]
  have h1 := z_lo x
  have h2 := z_hi x
  have e : x.toInt.tdiv y.toInt ≤ max 0 x.toInt ∧ min 0 x.toInt ≤ x.toInt.tdiv y.toInt := by
    rcases Int.le_total 0 x.toInt with hx | hx
    · have a1 := Int.tdiv_nonneg hx (show (0 : Int) ≤ y.toInt by omega)
      have a2 := Int.tdiv_le_self y.toInt hx
      omega
    · have hn : 0 ≤ -x.toInt := by omega
      have a1 := Int.tdiv_nonneg hn (show (0 : Int) ≤ y.toInt by omega)
      have a2 := Int.tdiv_le_self y.toInt hn
      rw [Int.neg_tdiv] at a1 a2
      omega
  exact Int.bmod_eq_of_le (by omega) (by omega)
theorem z_nn {x : Int32} (h : 0 ≤ x.toInt) : x.toInt = (x.toBitVec.toNat : Int) := by
  have e : x.toInt = x.toBitVec.toInt := rfl
  rw [BitVec.toInt_eq_toNat_cond] at e
  have hx : x.toBitVec.toNat < 2 ^ 32 := x.toBitVec.isLt
  split at e <;> omega
theorem z_nb {x : Int32} (h : x.toBitVec.toNat < 2147483648) : x.toInt = (x.toBitVec.toNat : Int) := by
  have e : x.toInt = x.toBitVec.toInt := rfl
  rw [BitVec.toInt_eq_toNat_cond] at e
  split at e <;> omega
theorem z_and {x y : Int32} (h : 0 ≤ y.toInt) : 0 ≤ (x &&& y).toInt ∧ (x &&& y).toInt ≤ y.toInt := by
  have hy := z_nn h
  have h2 := z_hi y
  have e : (x &&& y).toBitVec.toNat ≤ y.toBitVec.toNat := by
    rw [Int32.toBitVec_and, BitVec.toNat_and]
    exact Nat.and_le_right
  have := z_nb (x := x &&& y) (by omega)
  omega
theorem z_andl {x y : Int32} (h : 0 ≤ x.toInt) : 0 ≤ (x &&& y).toInt ∧ (x &&& y).toInt ≤ x.toInt := by
  rw [Int32.and_comm]
  exact z_and h
/-- the least 2^k - 1 at or above a number -/
def zmask (n : Nat) : Nat := if n < 1 then 0 else if n < 2 then 1 else if n < 4 then 3 else if n < 8 then 7 else if n < 16 then 15 else if n < 32 then 31 else if n < 64 then 63 else if n < 128 then 127 else if n < 256 then 255 else if n < 512 then 511 else if n < 1024 then 1023 else if n < 65536 then 65535 else 2147483647
theorem z_mask (n : Nat) (hn : n ≤ 2147483647) : ∃ k, k ≤ 31 ∧ zmask n = 2 ^ k - 1 ∧ n < 2 ^ k := by
  unfold zmask
  split; · exact ⟨0, by omega, rfl, by omega⟩
  split; · exact ⟨1, by omega, rfl, by omega⟩
  split; · exact ⟨2, by omega, rfl, by omega⟩
  split; · exact ⟨3, by omega, rfl, by omega⟩
  split; · exact ⟨4, by omega, rfl, by omega⟩
  split; · exact ⟨5, by omega, rfl, by omega⟩
  split; · exact ⟨6, by omega, rfl, by omega⟩
  split; · exact ⟨7, by omega, rfl, by omega⟩
  split; · exact ⟨8, by omega, rfl, by omega⟩
  split; · exact ⟨9, by omega, rfl, by omega⟩
  split; · exact ⟨10, by omega, rfl, by omega⟩
  split; · exact ⟨16, by omega, rfl, by omega⟩
  exact ⟨31, by omega, rfl, by omega⟩
theorem z_or {x y : Int32} {n : Nat} (hx : 0 ≤ x.toInt) (hy : 0 ≤ y.toInt) (h1 : x.toInt ≤ n) (h2 : y.toInt ≤ n) (hn : n ≤ 2147483647) : (x.toInt ≤ (x ||| y).toInt ∧ y.toInt ≤ (x ||| y).toInt) ∧ (x ||| y).toInt ≤ (zmask n : Nat) := by
  obtain ⟨k, hk, em, hlt⟩ := z_mask n hn
  have e1 := z_nn hx
  have e2 := z_nn hy
  have e : (x ||| y).toBitVec.toNat < 2 ^ k := by
    rw [Int32.toBitVec_or, BitVec.toNat_or]
    exact Nat.or_lt_two_pow (by omega) (by omega)
  have l1 : x.toBitVec.toNat ≤ (x ||| y).toBitVec.toNat := by
    rw [Int32.toBitVec_or, BitVec.toNat_or]
    exact Nat.left_le_or
  have l2 : y.toBitVec.toNat ≤ (x ||| y).toBitVec.toNat := by
    rw [Int32.toBitVec_or, BitVec.toNat_or]
    exact Nat.right_le_or
  have hp : 2 ^ k ≤ 2 ^ 31 := Nat.pow_le_pow_right (by omega) hk
  have := z_nb (x := x ||| y) (by omega)
  omega
theorem z_xor {x y : Int32} {n : Nat} (hx : 0 ≤ x.toInt) (hy : 0 ≤ y.toInt) (h1 : x.toInt ≤ n) (h2 : y.toInt ≤ n) (hn : n ≤ 2147483647) : 0 ≤ (x ^^^ y).toInt ∧ (x ^^^ y).toInt ≤ (zmask n : Nat) := by
  obtain ⟨k, hk, em, hlt⟩ := z_mask n hn
  have e1 := z_nn hx
  have e2 := z_nn hy
  have e : (x ^^^ y).toBitVec.toNat < 2 ^ k := by
    rw [Int32.toBitVec_xor, BitVec.toNat_xor]
    exact Nat.xor_lt_two_pow (by omega) (by omega)
  have hp : 2 ^ k ≤ 2 ^ 31 := Nat.pow_le_pow_right (by omega) hk
  have := z_nb (x := x ^^^ y) (by omega)
  omega
theorem z_shl1 : ∀ k : Fin 31, ((1 : Int32) <<< (Int32.ofInt (k.val : Int) &&& 31)).toInt = ((2 ^ k.val : Nat) : Int) := by decide +kernel
theorem z_shl {y : Int32} (h1 : 0 ≤ y.toInt) (h2 : y.toInt ≤ 30) : ((1 : Int32) <<< (y &&& 31)).toInt = ((2 ^ y.toInt.toNat : Nat) : Int) := by
  have := z_shl1 ⟨y.toInt.toNat, by omega⟩
  simp only at this
  rw [show ((y.toInt.toNat : Nat) : Int) = y.toInt by omega, z_ofi] at this
  exact this
theorem z_shr {x y : Int32} (h : 0 ≤ x.toInt) : 0 ≤ (x >>> y).toInt ∧ (x >>> y).toInt ≤ x.toInt := by
  have e : (x >>> y).toInt = (x >>> y).toBitVec.toInt := rfl
  rw [e, Int32.toBitVec_shiftRight, BitVec.toInt_sshiftRight', Int.shiftRight_eq_div_pow]
  exact ⟨Int.ediv_nonneg h (by exact_mod_cast Nat.zero_le _), Int.ediv_le_self _ h⟩
end
section
/-! operations of two numbers, and what a comparison tells -/
def zsem (op : Nat) (x y : Int32) : Int32 := match op with
  | 0 => x + y
  | 1 => x - y
  | 2 => x * y
  | 3 => x / y
  | 4 => x % y
  | 5 => x <<< (y &&& 31)
  | 6 => x >>> (y &&& 31)
  | 7 => x &&& y
  | 8 => x ||| y
  | _ => x ^^^ y
def zbin (op : Nat) (q r : zIV) : Option zIV := match op with
  | 0 => some (zfit (q.1 + r.1, q.2 + r.2))
  | 1 => some (zfit (q.1 - r.2, q.2 - r.1))
  | 2 => some (zfit (min (min (q.1 * r.1) (q.1 * r.2)) (min (q.2 * r.1) (q.2 * r.2)), max (max (q.1 * r.1) (q.1 * r.2)) (max (q.2 * r.1) (q.2 * r.2))))
  | 3 => if 1 ≤ r.1 then some (if 0 ≤ q.1 then (0, q.2 / r.1) else (min 0 q.1, max 0 q.2)) else none
  | 4 => if 1 ≤ r.1 then some (if 0 ≤ q.1 then (0, min q.2 (r.2 - 1)) else (-(r.2 - 1), r.2 - 1)) else none
  | 5 => some (if q.1 = 1 ∧ q.2 = 1 ∧ 0 ≤ r.1 ∧ r.2 ≤ 30 then (((2 ^ r.1.toNat : Nat) : Int), ((2 ^ r.2.toNat : Nat) : Int)) else ztop)
  | 6 => some (if 0 ≤ q.1 then (0, q.2) else ztop)
  | 7 => some (if 0 ≤ r.1 then (if 0 ≤ q.1 then (0, min q.2 r.2) else (0, r.2)) else if 0 ≤ q.1 then (0, q.2) else ztop)
  | 8 => some (if 0 ≤ q.1 ∧ 0 ≤ r.1 ∧ q.2 ≤ 2147483647 ∧ r.2 ≤ 2147483647 then (max q.1 r.1, (zmask (max q.2 r.2).toNat : Nat)) else ztop)
  | _ => some (if 0 ≤ q.1 ∧ 0 ≤ r.1 ∧ q.2 ≤ 2147483647 ∧ r.2 ≤ 2147483647 then (0, (zmask (max q.2 r.2).toNat : Nat)) else ztop)
theorem z_top (r : Int32) : ztop.1 ≤ r.toInt ∧ r.toInt ≤ ztop.2 := ⟨z_lo r, z_hi r⟩
theorem z_ediv {x y X r : Int} (hx : 0 ≤ x) (h1 : x ≤ X) (hr : 1 ≤ r) (hy : r ≤ y) : x / y ≤ X / r := by
  have e1 : 0 ≤ x / y := Int.ediv_nonneg hx (by omega)
  have e2 : x / y * y ≤ x := Int.ediv_mul_le x (by omega)
  have e3 : x / y * r ≤ x / y * y := Int.mul_le_mul_of_nonneg_left hy e1
  exact (Int.le_ediv_iff_mul_le (by omega)).mpr (by omega)
theorem z_bin {op : Nat} {q r z : zIV} {x y : Int32} (h : zbin op q r = some z) (hx : q.1 ≤ x.toInt ∧ x.toInt ≤ q.2) (hy : r.1 ≤ y.toInt ∧ y.toInt ≤ r.2) : z.1 ≤ (zsem op x y).toInt ∧ (zsem op x y).toInt ≤ z.2 := by
  unfold zbin at h
  split at h
  · cases h
    exact z_fit (v := x.toInt + y.toInt) (by simp only; omega) (by simp only; omega) (fun a b => z_add a b)
  · cases h
    exact z_fit (v := x.toInt - y.toInt) (by simp only; omega) (by simp only; omega) (fun a b => z_sub a b)
  · cases h
    have := z_mulb hx.1 hx.2 hy.1 hy.2
    exact z_fit (v := x.toInt * y.toInt) this.1 this.2 (fun a b => z_mul a b)
  · split at h
    · rename_i h1
      cases h
      show _ ≤ (x / y).toInt ∧ (x / y).toInt ≤ _
      rw [z_div (by omega)]
      split
      · rename_i h0
        rw [Int.tdiv_eq_ediv_of_nonneg (by omega)]
        exact ⟨Int.ediv_nonneg (by omega) (by omega), z_ediv (by omega) hx.2 h1 hy.1⟩
      · have e : x.toInt.tdiv y.toInt ≤ max 0 x.toInt ∧ min 0 x.toInt ≤ x.toInt.tdiv y.toInt := by
          rcases Int.le_total 0 x.toInt with hx | hx
          · have a1 := Int.tdiv_nonneg hx (show (0 : Int) ≤ y.toInt by omega)
            have a2 := Int.tdiv_le_self y.toInt hx
            omega
          · have hn : 0 ≤ -x.toInt := by omega
            have a1 := Int.tdiv_nonneg hn (show (0 : Int) ≤ y.toInt by omega)
            have a2 := Int.tdiv_le_self y.toInt hn
            rw [Int.neg_tdiv] at a1 a2
            omega
        simp only
        omega
    · cases h
  · split at h
    · rename_i h1
      cases h
      show _ ≤ (x % y).toInt ∧ (x % y).toInt ≤ _
      rw [Int32.toInt_mod]
      have hpos : 0 < y.toInt := by omega
      split
      · rename_i h0
        have a1 : x.toInt.tmod y.toInt = x.toInt % y.toInt := Int.tmod_eq_emod_of_nonneg (by omega)
        have a2 := Int.emod_nonneg x.toInt (show y.toInt ≠ 0 by omega)
        have a3 := Int.emod_lt_of_pos x.toInt hpos
        have d : 0 ≤ x.toInt / y.toInt := Int.ediv_nonneg (by omega) (by omega)
        have d2 : 0 ≤ y.toInt * (x.toInt / y.toInt) := Int.mul_nonneg (by omega) d
        have a4 : x.toInt % y.toInt ≤ x.toInt := by rw [Int.emod_def]; omega
        simp only
        omega
      · have a1 := Int.tmod_lt_of_pos x.toInt hpos
        have a2 := Int.lt_tmod_of_pos x.toInt hpos
        simp only
        omega
    · cases h
  · cases h
    split
    · rename_i h1
      obtain ⟨e1, e2, e3, e4⟩ := h1
      have ex : x = 1 := by
        have : x.toInt = (1 : Int32).toInt := by
          rw [show (1 : Int32).toInt = 1 from rfl]; omega
        exact Int32.toInt_inj.mp this
      subst ex
      show _ ≤ ((1 : Int32) <<< (y &&& 31)).toInt ∧ ((1 : Int32) <<< (y &&& 31)).toInt ≤ _
      rw [z_shl (by omega) (by omega)]
      simp only
      exact ⟨by exact_mod_cast Nat.pow_le_pow_right (by omega) (by omega), by exact_mod_cast Nat.pow_le_pow_right (by omega) (by omega)⟩
    · exact z_top _
  · cases h
    split
    · have := z_shr (x := x) (y := y &&& 31) (by omega)
      show _ ≤ (x >>> (y &&& 31)).toInt ∧ (x >>> (y &&& 31)).toInt ≤ _
      simp only
      omega
    · exact z_top _
  · cases h
    show _ ≤ (x &&& y).toInt ∧ (x &&& y).toInt ≤ _
    split
    · have a1 := z_and (x := x) (y := y) (by omega)
      split
      · have a2 := z_andl (x := x) (y := y) (by omega)
        simp only
        omega
      · simp only
        omega
    · split
      · have := z_andl (x := x) (y := y) (by omega)
        simp only
        omega
      · exact z_top _
  · cases h
    show _ ≤ (x ||| y).toInt ∧ (x ||| y).toInt ≤ _
    split
    · rename_i h1
      have := z_or (x := x) (y := y) (n := (max q.2 r.2).toNat) (by omega) (by omega) (by omega) (by omega) (by omega)
      simp only
      omega
    · exact z_top _
  · cases h
    have e : zsem op x y = x ^^^ y := by
      unfold zsem
      split <;> first | rfl | (exfalso; simp_all; done)
    rw [e]
    split
    · rename_i h1
      have := z_xor (x := x) (y := y) (n := (max q.2 r.2).toNat) (by omega) (by omega) (by omega) (by omega) (by omega)
      simp only
      omega
    · exact z_top _
/-- comparisons: 0 <, 1 ≥, 2 >, 3 ≤, 4 =, 5 ≠ -/
def zcmp (cd : Nat) (x y : Int) : Prop := match cd with
  | 0 => x < y
  | 1 => y ≤ x
  | 2 => y < x
  | 3 => x ≤ y
  | 4 => x = y
  | _ => x ≠ y
def zneq (q r : zIV) : zIV := if r.1 = r.2 then (if q.1 = r.1 then q.1 + 1 else q.1, if q.2 = r.1 then q.2 - 1 else q.2) else q
/-- the bounds behind a comparison that holds -/
def zref (cd : Nat) (q r : zIV) : zIV × zIV := match cd with
  | 0 => ((q.1, min q.2 (r.2 - 1)), (max r.1 (q.1 + 1), r.2))
  | 1 => ((max q.1 r.1, q.2), (r.1, min r.2 q.2))
  | 2 => ((max q.1 (r.1 + 1), q.2), (r.1, min r.2 (q.2 - 1)))
  | 3 => ((q.1, min q.2 r.2), (max r.1 q.1, r.2))
  | 4 => ((max q.1 r.1, min q.2 r.2), (max q.1 r.1, min q.2 r.2))
  | _ => (zneq q r, zneq r q)
theorem z_neq {q r : zIV} {x y : Int} (h : x ≠ y) (hx : q.1 ≤ x ∧ x ≤ q.2) (hy : r.1 ≤ y ∧ y ≤ r.2) : (zneq q r).1 ≤ x ∧ x ≤ (zneq q r).2 := by
  unfold zneq
  split
  · simp only
    constructor <;> split <;> omega
  · exact hx
theorem z_ref {cd : Nat} {q r : zIV} {x y : Int} (h : zcmp cd x y) (hx : q.1 ≤ x ∧ x ≤ q.2) (hy : r.1 ≤ y ∧ y ≤ r.2) : ((zref cd q r).1.1 ≤ x ∧ x ≤ (zref cd q r).1.2) ∧ (zref cd q r).2.1 ≤ y ∧ y ≤ (zref cd q r).2.2 := by
  unfold zcmp at h
  unfold zref
  split at h
  · simp only; omega
  · simp only; omega
  · simp only; omega
  · simp only; omega
  · simp only; omega
  · exact ⟨z_neq h hx hy, z_neq (fun e => h e.symm) hy hx⟩
/-- the other outcome -/
def znot (cd : Nat) : Nat := match cd with
  | 0 => 1
  | 1 => 0
  | 2 => 3
  | 3 => 2
  | 4 => 5
  | _ => 4
theorem z_not {cd : Nat} {x y : Int} (h : ¬ zcmp cd x y) : zcmp (znot cd) x y := by
  unfold zcmp at h
  unfold znot
  split at h
  · show y ≤ x; omega
  · show x < y; omega
  · show x ≤ y; omega
  · show y < x; omega
  · show x ≠ y; exact h
  · show x = y; omega
end
section
variable {η : zRn}
/-! from every state of which an abstract state says the truth, the machine comes to the end -/
section ZGO
variable {kds : List zKD} {D : va_G} {cl : List vw_C} {cy : Nat → ClassId} {L : List Nat} {Θ : Nat → Option Nat} {h0 : Nat → Nat → Int} {eff : List (Nat × Nat × Nat)} {A : Nat → Prop} {H0 : Heap} {nL : Nat}
variable {p : Program} {l : Launch} {e : Env} {R : Room} {s : State} {m : MethodId} {args : Array Value} {below : List Frame} {meth : Method} {c : Code} {Q : State → Prop}
def zGo (η : zRn) (kds : List zKD) (D : va_G) (cl : List vw_C) (cy : Nat → ClassId) (L : List Nat) (Θ : Nat → Option Nat) (h0 : Nat → Nat → Int) (eff : List (Nat × Nat × Nat)) (A : Nat → Prop) (H0 : Heap) (nL : Nat)
    (p : Program) (l : Launch) (e : Env) (R : Room) (s : State) (m : MethodId) (args : Array Value) (below : List Frame) (meth : Method) (c : Code) (Q : State → Prop) (σA : List Int) (pc : Nat) (as : zAS) : Prop :=
  ∀ (τ : List Int) (h : Nat → Nat → Int) (H : Heap) (locs : List Loc) (ls : Array Slot), zG η kds D cl cy L Θ h0 eff A H0 nL as (σA ++ τ) h H locs ls →
    W p l e R s m args below meth c H locs 0 0 Q (F0 m pc ls (as.2.2.1.map (zvo η (σA ++ τ))))
theorem zG_stk {as : zAS} {σ : List Int} {h : Nat → Nat → Int} {H : Heap} {locs : List Loc} {ls : Array Slot} (g : zG η kds D cl cy L Θ h0 eff A H0 nL as σ h H locs ls) {st : List zAV} (hst : ∀ a ∈ st, zga Θ σ a) :
    zG η kds D cl cy L Θ h0 eff A H0 nL (as.1, as.2.1, st, as.2.2.2) σ h H locs ls := by
  obtain ⟨gE, gL, hl, gS, gV, gR, gH, gF, gX⟩ := g
  exact ⟨gE, gL, hl, hst, gV, gR, gH, gF, gX⟩
theorem zG_push {as : zAS} {σ : List Int} {h : Nat → Nat → Int} {H : Heap} {locs : List Loc} {ls : Array Slot} (g : zG η kds D cl cy L Θ h0 eff A H0 nL as σ h H locs ls) {st : List zAV} (hst : ∀ a ∈ st, zga Θ σ a)
    {q : zIV} {t : Nat} {x : Int} (h1 : q.1 ≤ x) (h2 : x ≤ q.2) (ht : zok Θ t x) :
    zG η kds D cl cy L Θ h0 eff A H0 nL (as.1 ++ [q], as.2.1, (t, as.1.length, 0) :: st, as.2.2.2) (σ ++ [x]) h H locs ls := by
  obtain ⟨gE, gL, hl, gS, gV, gR, gH, gF, gX⟩ := g
  refine ⟨z_ge gE h1 h2, fun q hq => z_ga (gL q hq), z_lv gL hl, ?_, z_gv gV, z_gr gR, gH, gF, gX⟩
  intro a ha
  rcases List.mem_cons.mp ha with rfl | ha
  · refine ⟨z_len gE, ?_⟩
    have : zev (σ ++ [x]) (t, as.1.length, 0) = x := by
      unfold zev
      simp only
      rw [z_gn gE]; omega
    rw [this]
    exact ht
  · exact z_ga (hst a ha)
theorem z_vn {as : zAS} {σ : List Int} {t : Nat} {x : Int} (gE : zge σ as.1) : zvo η (σ ++ [x]) (t, as.1.length, 0) = zdec η t x := by
  unfold zvo zev
  simp only
  rw [z_gn gE]
  simp
theorem zgo_push {σA : List Int} {pc pc' : Nat} {as : zAS} {st : List zAV} {q : zIV} {t : Nat}
    (k : zGo η kds D cl cy L Θ h0 eff A H0 nL p l e R s m args below meth c Q σA pc' (as.1 ++ [q], as.2.1, (t, as.1.length, 0) :: st, as.2.2.2))
    (hh : ∀ (σ : List Int) (h : Nat → Nat → Int) (H : Heap) (locs : List Loc) (ls : Array Slot), zG η kds D cl cy L Θ h0 eff A H0 nL as σ h H locs ls → (∀ a ∈ st, zga Θ σ a) ∧ ∃ x : Int, q.1 ≤ x ∧ x ≤ q.2 ∧ zok Θ t x ∧
      (W p l e R s m args below meth c H locs 0 0 Q (F0 m pc' ls (zdec η t x :: st.map (zvo η σ))) → W p l e R s m args below meth c H locs 0 0 Q (F0 m pc ls (as.2.2.1.map (zvo η σ))))) :
    zGo η kds D cl cy L Θ h0 eff A H0 nL p l e R s m args below meth c Q σA pc as := by
  intro τ h H locs ls g
  obtain ⟨hst, x, h1, h2, h3, hw⟩ := hh _ h H locs ls g
  apply hw
  have g' := zG_push g hst h1 h2 h3
  rw [List.append_assoc] at g'
  have w := k (τ ++ [x]) h H locs ls g'
  simp only [List.map_cons, ← List.append_assoc] at w
  rw [z_vn g.1, z_st hst] at w
  exact w
theorem zgo_stk {σA : List Int} {pc pc' : Nat} {as : zAS} {st : List zAV}
    (k : zGo η kds D cl cy L Θ h0 eff A H0 nL p l e R s m args below meth c Q σA pc' (as.1, as.2.1, st, as.2.2.2))
    (hh : ∀ (σ : List Int) (h : Nat → Nat → Int) (H : Heap) (locs : List Loc) (ls : Array Slot), zG η kds D cl cy L Θ h0 eff A H0 nL as σ h H locs ls → (∀ a ∈ st, zga Θ σ a) ∧
      (W p l e R s m args below meth c H locs 0 0 Q (F0 m pc' ls (st.map (zvo η σ))) → W p l e R s m args below meth c H locs 0 0 Q (F0 m pc ls (as.2.2.1.map (zvo η σ))))) :
    zGo η kds D cl cy L Θ h0 eff A H0 nL p l e R s m args below meth c Q σA pc as := by
  intro τ h H locs ls g
  obtain ⟨hst, hw⟩ := hh _ h H locs ls g
  exact hw (k τ h H locs ls (zG_stk g hst))
/-- locals -/
def zfind : List (Nat × zAV) → Nat → Option zAV
  | [], _ => none
  | (j, a) :: r, i => if j = i then some a else zfind r i
theorem z_find {loc : List (Nat × zAV)} {i : Nat} {a : zAV} (h : zfind loc i = some a) : (i, a) ∈ loc := by
  induction loc with
  | nil => cases h
  | cons q r ih =>
    obtain ⟨j, b⟩ := q
    unfold zfind at h
    split at h
    · rename_i e
      cases h
      subst e
      exact List.mem_cons_self
    · exact List.mem_cons_of_mem _ (ih h)
theorem z_at {ls : Array Slot} {σ : List Int} {loc : List (Nat × zAV)} {i : Nat} {a : zAV} (hl : lv_has ls nL (loc.map fun q => (q.1, zvo η σ q.2))) (h : zfind loc i = some a) : ls[i]? = some (.val (zvo η σ a)) :=
  hl.2.2 (i, zvo η σ a) (List.mem_map.mpr ⟨(i, a), z_find h, rfl⟩)
/-- a local is written (i), of one word or (two) of two -/
def zput (loc : List (Nat × zAV)) (i : Nat) (a : zAV) : List (Nat × zAV) := (i, a) :: loc.filter (fun q => !(q.1 == i) && !(q.1 + 1 == i && q.2.1 == 1))
def zput2 (loc : List (Nat × zAV)) (i : Nat) (a : zAV) : List (Nat × zAV) := (i, a) :: loc.filter (fun q => !(q.1 == i) && (!(q.1 == i + 1) && !(q.1 + 1 == i && q.2.1 == 1)))
theorem z_cat (t : Nat) (x : Int) : ((zdec η t x).category == 2) = (t == 1) := by
  match t with
  | 0 => rfl
  | 1 => rfl
  | t + 2 =>
    have : (zdec η (t + 2) x).category = 1 := by
      show (va_rf (zrf η x)).category = 1
      cases zrf η x <;> rfl
    rw [this]
    simp
theorem z_cat1 {t : Nat} (x : Int) (h : t ≠ 1) : (zdec η t x).category = 1 := by
  match t, h with
  | 0, _ => rfl
  | 1, h => exact absurd rfl h
  | t + 2, _ =>
    show (va_rf (zrf η x)).category = 1
    cases zrf η x <;> rfl
theorem z_put {σ : List Int} {loc : List (Nat × zAV)} {i : Nat} {a : zAV} : (i, zvo η σ a) :: (loc.map fun q => (q.1, zvo η σ q.2)).filter (fun q => !(q.1 == i) && !(q.1 + 1 == i && q.2.category == 2)) = (zput loc i a).map fun q => (q.1, zvo η σ q.2) := by
  unfold zput
  rw [List.map_cons, List.filter_map]
  congr 2
  apply List.filter_congr
  intro q _
  simp only [Function.comp]
  unfold zvo
  rw [z_cat]
theorem z_put2 {σ : List Int} {loc : List (Nat × zAV)} {i : Nat} {a : zAV} : (i, zvo η σ a) :: (loc.map fun q => (q.1, zvo η σ q.2)).filter (fun q => !(q.1 == i) && (!(q.1 == i + 1) && !(q.1 + 1 == i && q.2.category == 2))) = (zput2 loc i a).map fun q => (q.1, zvo η σ q.2) := by
  unfold zput2
  rw [List.map_cons, List.filter_map]
  congr 2
  apply List.filter_congr
  intro q _
  simp only [Function.comp]
  unfold zvo
  rw [z_cat]
theorem z_pm {P : zAV → Prop} {loc : List (Nat × zAV)} {i : Nat} {a : zAV} (h : ∀ q ∈ loc, P q.2) (ha : P a) : ∀ q ∈ zput loc i a, P q.2 := by
  intro q hq
  rcases List.mem_cons.mp hq with rfl | hq
  · exact ha
  · exact h q (List.mem_filter.mp hq).1
theorem z_pm2 {P : zAV → Prop} {loc : List (Nat × zAV)} {i : Nat} {a : zAV} (h : ∀ q ∈ loc, P q.2) (ha : P a) : ∀ q ∈ zput2 loc i a, P q.2 := by
  intro q hq
  rcases List.mem_cons.mp hq with rfl | hq
  · exact ha
  · exact h q (List.mem_filter.mp hq).1
/-- a value that lies in the locals comes on the stack -/
theorem zgo_ld {cc : ByteArray} {pc len i : Nat} {as : zAS} {a : zAV} {σA : List Int} (hf : zfind as.2.1 i = some a)
    (hw : ∀ (v : Value) (H : Heap) (locs : List Loc) (ls : Array Slot) (rest : List Value), (∃ σ : List Int, zga Θ σ a ∧ v = zvo η σ a) → ls[i]? = some (.val v) → W p l e R s m args below meth c H locs 0 0 Q (F0 m (pc + len) ls (v :: rest)) → W p l e R s m args below meth c H locs 0 0 Q (F0 m pc ls rest))
    (k : zGo η kds D cl cy L Θ h0 eff A H0 nL p l e R s m args below meth c Q σA (pc + len) (as.1, as.2.1, a :: as.2.2.1, as.2.2.2)) :
    zGo η kds D cl cy L Θ h0 eff A H0 nL p l e R s m args below meth c Q σA pc as := by
  refine zgo_stk k ?_
  intro σ h H locs ls g
  obtain ⟨gE, gL, hl, gS, gV, gR, gH, gF, gX⟩ := g
  have ha : zga Θ σ a := gL (i, a) (z_find hf)
  refine ⟨fun b hb => ?_, fun w => ?_⟩
  · rcases List.mem_cons.mp hb with rfl | hb
    · exact ha
    · exact gS b hb
  · exact hw _ H locs ls _ ⟨σ, ha, rfl⟩ (z_at hl hf) w
/-- the top of the stack goes into a local -/
theorem zgo_sto {cc : ByteArray} {pc len i : Nat} {as : zAS} {a : zAV} {st : List zAV} {σA : List Int} (hs : as.2.2.1 = a :: st)
    (hw : ∀ (v : Value) (H : Heap) (locs : List Loc) (ls : Array Slot) (rest : List Value) (lv : List (Nat × Value)), (∃ σ : List Int, zga Θ σ a ∧ v = zvo η σ a) → lv_has ls nL lv →
      (∀ ls' : Array Slot, lv_has ls' nL ((i, v) :: lv.filter (fun q => !(q.1 == i) && !(q.1 + 1 == i && q.2.category == 2))) → W p l e R s m args below meth c H locs 0 0 Q (F0 m (pc + len) ls' rest)) → W p l e R s m args below meth c H locs 0 0 Q (F0 m pc ls (v :: rest)))
    (k : zGo η kds D cl cy L Θ h0 eff A H0 nL p l e R s m args below meth c Q σA (pc + len) (as.1, zput as.2.1 i a, st, as.2.2.2)) :
    zGo η kds D cl cy L Θ h0 eff A H0 nL p l e R s m args below meth c Q σA pc as := by
  intro τ h H locs ls g
  obtain ⟨gE, gL, hl, gS, gV, gR, gH, gF, gX⟩ := g
  rw [hs] at gS ⊢
  have ha := gS a List.mem_cons_self
  rw [List.map_cons]
  refine hw _ H locs ls _ _ ⟨_, ha, rfl⟩ hl (fun ls' hl' => ?_)
  rw [z_put] at hl'
  exact k τ h H locs ls' ⟨gE, z_pm gL ha, hl', fun b hb => gS b (List.mem_cons_of_mem _ hb), gV, gR, gH, gF, gX⟩
end ZGO
end
section
variable {η : zRn}
/-! instructions that leave the heap alone -/
section ZIN
variable {kds : List zKD} {D : va_G} {cl : List vw_C} {cy : Nat → ClassId} {L : List Nat} {Θ : Nat → Option Nat} {h0 : Nat → Nat → Int} {eff : List (Nat × Nat × Nat)} {A : Nat → Prop} {H0 : Heap} {nL : Nat}
variable {p : Program} {l : Launch} {e : Env} {R : Room} {s : State} {m : MethodId} {args : Array Value} {below : List Frame} {meth : Method} {c : Code} {Q : State → Prop}
variable {cc : ByteArray} {σA : List Int} {pc : Nat} {as : zAS}
theorem zgo_ext {pc' : Nat} {st : List zAV} {env' : List zIV} {d : zAV}
    (k : zGo η kds D cl cy L Θ h0 eff A H0 nL p l e R s m args below meth c Q σA pc' (env', as.2.1, d :: st, as.2.2.2))
    (hh : ∀ (σ : List Int) (h : Nat → Nat → Int) (H : Heap) (locs : List Loc) (ls : Array Slot), zG η kds D cl cy L Θ h0 eff A H0 nL as σ h H locs ls → (∀ a ∈ st, zga Θ σ a) ∧ ∃ τ : List Int, zge (σ ++ τ) env' ∧ zga Θ (σ ++ τ) d ∧
      (W p l e R s m args below meth c H locs 0 0 Q (F0 m pc' ls (zvo η (σ ++ τ) d :: st.map (zvo η σ))) → W p l e R s m args below meth c H locs 0 0 Q (F0 m pc ls (as.2.2.1.map (zvo η σ))))) :
    zGo η kds D cl cy L Θ h0 eff A H0 nL p l e R s m args below meth c Q σA pc as := by
  intro τ h H locs ls g
  obtain ⟨hst, τ', hE, hd, hw⟩ := hh _ h H locs ls g
  apply hw
  obtain ⟨gE, gL, hl, gS, gV, gR, gH, gF, gX⟩ := g
  rw [List.append_assoc] at hE hd
  have g' : zG η kds D cl cy L Θ h0 eff A H0 nL (env', as.2.1, d :: st, as.2.2.2) (σA ++ (τ ++ τ')) h H locs ls := by
    refine ⟨hE, fun q hq => by rw [← List.append_assoc]; exact z_ga (gL q hq), by rw [← List.append_assoc]; exact z_lv gL hl, ?_, by rw [← List.append_assoc]; exact z_gv gV, by rw [← List.append_assoc]; exact z_gr gR, gH, gF, gX⟩
    intro a ha
    rcases List.mem_cons.mp ha with rfl | ha
    · exact hd
    · rw [← List.append_assoc]; exact z_ga (hst a ha)
  have w := k (τ ++ τ') h H locs ls g'
  simp only [List.map_cons, ← List.append_assoc] at w
  rw [z_st hst] at w
  exact w
theorem z_c0 {σ : List Int} {env : List zIV} (gE : zge σ env) (h : env[0]? = some (0, 0)) : σ.getD 0 0 = 0 ∧ 0 < σ.length := by
  have h1 := gE.2 0 _ h
  have h2 := (List.getElem?_eq_some_iff.mp h).1
  simp only at h1
  exact ⟨by omega, by rw [gE.1]; exact h2⟩
theorem z_cv {σ : List Int} {env : List zIV} (gE : zge σ env) (h : env[0]? = some (0, 0)) (t : Nat) (n : Int) : zvo η σ (t, 0, n) = zdec η t n := by
  unfold zvo zev
  simp only
  rw [(z_c0 gE h).1]
  simp
theorem z_cg {σ : List Int} {env : List zIV} (gE : zge σ env) (h : env[0]? = some (0, 0)) {t : Nat} {n : Int} (hn : zok Θ t n) : zga Θ σ (t, 0, n) := by
  refine ⟨(z_c0 gE h).2, ?_⟩
  have : zev σ (t, 0, n) = n := by
    unfold zev
    simp only
    rw [(z_c0 gE h).1]; simp
  rw [this]; exact hn
/-- a constant of any type -/
theorem zgo_cst {len t : Nat} {n : Int} (h0' : as.1[0]? = some (0, 0)) (hn : zok Θ t n)
    (hw : ∀ (H : Heap) (locs : List Loc) (ls : Array Slot) (rest : List Value), W p l e R s m args below meth c H locs 0 0 Q (F0 m (pc + len) ls (zdec η t n :: rest)) → W p l e R s m args below meth c H locs 0 0 Q (F0 m pc ls rest))
    (k : zGo η kds D cl cy L Θ h0 eff A H0 nL p l e R s m args below meth c Q σA (pc + len) (as.1, as.2.1, (t, 0, n) :: as.2.2.1, as.2.2.2)) : zGo η kds D cl cy L Θ h0 eff A H0 nL p l e R s m args below meth c Q σA pc as := by
  refine zgo_stk k ?_
  intro σ h H locs ls g
  refine ⟨fun b hb => ?_, fun w => ?_⟩
  · rcases List.mem_cons.mp hb with rfl | hb
    · exact z_cg g.1 h0' hn
    · exact g.2.2.2.1 b hb
  · rw [List.map_cons, z_cv g.1 h0'] at w
    exact hw H locs ls _ w
theorem z_i8 : ∀ k : Fin 256, (Int8.ofInt ((k.val : Int) - 128)).toInt32 = Int32.ofInt ((k.val : Int) - 128) := by decide +kernel
theorem z_b8 {n : Int} (h1 : -128 ≤ n) (h2 : n ≤ 127) : (Int8.ofInt n).toInt32 = Int32.ofInt n := by
  have := z_i8 ⟨(n + 128).toNat, by omega⟩
  simp only at this
  rw [show ((n + 128).toNat : Int) - 128 = n by omega] at this
  exact this
theorem z_b16 {n : Int} (h1 : -32768 ≤ n) (h2 : n ≤ 32767) : (Int16.ofInt n).toInt32 = Int32.ofInt n := by
  apply Int32.toInt_inj.mp
  rw [Int16.toInt_toInt32, Int16.toInt_ofInt, z_toi (by omega) (by omega)]
  exact Int.bmod_eq_of_le (by simp only [Int16.size]; omega) (by simp only [Int16.size]; omega)
/-- arithmetic of two numbers -/
def zari (op : Nat) (env : List zIV) (a b : zAV) : Option (List zIV × zAV) :=
  match ziv env a, ziv env b with
  | some q, some r =>
    if (decide (op = 0) && decide (r.1 = r.2) && zin (q.1 + r.1, q.2 + r.1)) = true then some (env, (0, a.2.1, a.2.2 + r.1))
    else if (decide (op = 0) && decide (q.1 = q.2) && zin (r.1 + q.1, r.2 + q.1)) = true then some (env, (0, b.2.1, b.2.2 + q.1))
    else if (decide (op = 1) && decide (r.1 = r.2) && zin (q.1 - r.1, q.2 - r.1)) = true then some (env, (0, a.2.1, a.2.2 - r.1))
    else match zbin op q r with
      | some z => some (env ++ [z], (0, env.length, 0))
      | none => none
  | _, _ => none
theorem z_ci {σ : List Int} {a : zAV} (h : zga Θ σ a) (ht : a.1 = 0) : ∃ x : Int32, zvo η σ a = .int x ∧ x.toInt = zev σ a := by
  obtain ⟨t, i, o⟩ := a
  simp only at ht
  subst ht
  have h2 := h.2
  simp only [zok] at h2
  exact ⟨Int32.ofInt (zev σ (0, i, o)), rfl, z_toi h2.1 h2.2⟩
theorem z_ari {op : Nat} {σ : List Int} {env env' : List zIV} {a b d : zAV} (h : zari op env a b = some (env', d)) (gE : zge σ env) (ha : zga Θ σ a) (hb : zga Θ σ b) {x y : Int32} (hx : x.toInt = zev σ a) (hy : y.toInt = zev σ b) :
    ∃ τ : List Int, zge (σ ++ τ) env' ∧ zga Θ (σ ++ τ) d ∧ zvo η (σ ++ τ) d = .int (zsem op x y) := by
  unfold zari at h
  split at h
  · rename_i q r hq hr
    have bq := z_iv gE hq
    have br := z_iv gE hr
    split at h
    · rename_i h1
      simp only [Bool.and_eq_true, decide_eq_true_eq] at h1
      obtain ⟨⟨rfl, e1⟩, e2⟩ := h1
      have e3 := z_in e2
      simp only at e3
      cases h
      have ev : zev σ (0, a.2.1, a.2.2 + r.1) = x.toInt + y.toInt := by
        rw [hx, hy]; unfold zev at *; simp only; omega
      have es : (zsem 0 x y).toInt = x.toInt + y.toInt := z_add (by rw [hx, hy]; omega) (by rw [hx, hy]; omega)
      refine ⟨[], by rw [List.append_nil]; exact gE, ?_, ?_⟩
      · rw [List.append_nil]
        exact ⟨ha.1, by rw [ev]; show _ ∧ _; rw [hx, hy]; omega⟩
      · rw [List.append_nil]
        unfold zvo
        rw [ev, ← es]
        show Value.int (Int32.ofInt (zsem 0 x y).toInt) = _
        rw [z_ofi]
    · split at h
      · rename_i h1
        simp only [Bool.and_eq_true, decide_eq_true_eq] at h1
        obtain ⟨⟨rfl, e1⟩, e2⟩ := h1
        have e3 := z_in e2
        simp only at e3
        cases h
        have ev : zev σ (0, b.2.1, b.2.2 + q.1) = x.toInt + y.toInt := by
          rw [hx, hy]; unfold zev at *; simp only; omega
        have es : (zsem 0 x y).toInt = x.toInt + y.toInt := z_add (by rw [hx, hy]; omega) (by rw [hx, hy]; omega)
        refine ⟨[], by rw [List.append_nil]; exact gE, ?_, ?_⟩
        · rw [List.append_nil]
          exact ⟨hb.1, by rw [ev]; show _ ∧ _; rw [hx, hy]; omega⟩
        · rw [List.append_nil]
          unfold zvo
          rw [ev, ← es]
          show Value.int (Int32.ofInt (zsem 0 x y).toInt) = _
          rw [z_ofi]
      · split at h
        · rename_i h1
          simp only [Bool.and_eq_true, decide_eq_true_eq] at h1
          obtain ⟨⟨rfl, e1⟩, e2⟩ := h1
          have e3 := z_in e2
          simp only at e3
          cases h
          have ev : zev σ (0, a.2.1, a.2.2 - r.1) = x.toInt - y.toInt := by
            rw [hx, hy]; unfold zev at *; simp only; omega
          have es : (zsem 1 x y).toInt = x.toInt - y.toInt := z_sub (by rw [hx, hy]; omega) (by rw [hx, hy]; omega)
          refine ⟨[], by rw [List.append_nil]; exact gE, ?_, ?_⟩
          · rw [List.append_nil]
            exact ⟨ha.1, by rw [ev]; show _ ∧ _; rw [hx, hy]; omega⟩
          · rw [List.append_nil]
            unfold zvo
            rw [ev, ← es]
            show Value.int (Int32.ofInt (zsem 1 x y).toInt) = _
            rw [z_ofi]
        · split at h
          · rename_i z hz
            cases h
            have bz := z_bin hz (by rw [hx]; exact bq) (by rw [hy]; exact br)
            refine ⟨[(zsem op x y).toInt], z_ge gE bz.1 bz.2, ⟨z_len gE, ?_⟩, ?_⟩
            · have : zev (σ ++ [(zsem op x y).toInt]) (0, env.length, 0) = (zsem op x y).toInt := by
                unfold zev
                simp only
                rw [z_gn gE]; simp
              rw [this]
              exact ⟨z_lo _, z_hi _⟩
            · unfold zvo zev
              simp only
              rw [z_gn gE]
              simp [zdec]
          · cases h
  · cases h
theorem z_arinz {op : Nat} {σ : List Int} {env : List zIV} {a b : zAV} {w : List zIV × zAV} (h : zari op env a b = some w) (hop : op = 3 ∨ op = 4) (gE : zge σ env) {y : Int32} (hy : y.toInt = zev σ b) : 1 ≤ y.toInt := by
  unfold zari at h
  split at h
  · rename_i q r hq hr
    have br := z_iv gE hr
    split at h
    · rename_i h1
      simp only [Bool.and_eq_true, decide_eq_true_eq] at h1
      omega
    · split at h
      · rename_i h1
        simp only [Bool.and_eq_true, decide_eq_true_eq] at h1
        omega
      · split at h
        · rename_i h1
          simp only [Bool.and_eq_true, decide_eq_true_eq] at h1
          omega
        · split at h
          · rename_i z hz
            have : 1 ≤ r.1 := by
              rcases hop with rfl | rfl
              · unfold zbin at hz; simp only at hz; split at hz
                · assumption
                · cases hz
              · unfold zbin at hz; simp only at hz; split at hz
                · assumption
                · cases hz
            omega
          · cases h
  · cases h
theorem zgo_ari {op : Nat} {env' : List zIV} {a b d : zAV} {st : List zAV} (hs : as.2.2.1 = b :: a :: st) (ht : a.1 = 0 ∧ b.1 = 0) (h : zari op as.1 a b = some (env', d))
    (hw : ∀ (x y : Int32) (H : Heap) (locs : List Loc) (ls : Array Slot) (rest : List Value), (op = 3 ∨ op = 4 → 1 ≤ y.toInt) → W p l e R s m args below meth c H locs 0 0 Q (F0 m (pc + 1) ls (.int (zsem op x y) :: rest)) → W p l e R s m args below meth c H locs 0 0 Q (F0 m pc ls (.int y :: .int x :: rest)))
    (k : zGo η kds D cl cy L Θ h0 eff A H0 nL p l e R s m args below meth c Q σA (pc + 1) (env', as.2.1, d :: st, as.2.2.2)) : zGo η kds D cl cy L Θ h0 eff A H0 nL p l e R s m args below meth c Q σA pc as := by
  refine zgo_ext k ?_
  intro σ hh H locs ls g
  obtain ⟨gE, gL, hl, gS, gV, gR, gH, gF, gX⟩ := g
  rw [hs] at gS ⊢
  have gb := gS b List.mem_cons_self
  have ga := gS a (List.mem_cons_of_mem _ List.mem_cons_self)
  obtain ⟨x, ex, hx⟩ := z_ci ga ht.1
  obtain ⟨y, ey, hy⟩ := z_ci gb ht.2
  obtain ⟨τ, hE, hd, hv⟩ := z_ari h gE ga gb hx hy
  refine ⟨fun q hq => gS q (List.mem_cons_of_mem _ (List.mem_cons_of_mem _ hq)), τ, hE, hd, fun w => ?_⟩
  rw [hv] at w
  rw [List.map_cons, List.map_cons, ex, ey]
  exact hw x y H locs ls _ (fun ho => z_arinz h ho gE hy) w
end ZIN
end
section
variable {η : zRn}
/-! comparisons -/
def zbr (cd : Nat) (env : List zIV) (a b : zAV) : Option (List zIV) :=
  match ziv env a, ziv env b with
  | some q, some r =>
    if (decide ((zref cd q r).1.1 ≤ (zref cd q r).1.2) && decide ((zref cd q r).2.1 ≤ (zref cd q r).2.2)) = true then
      some ((env.set a.2.1 ((zref cd q r).1.1 - a.2.2, (zref cd q r).1.2 - a.2.2)).set b.2.1 ((zref cd q r).2.1 - b.2.2, (zref cd q r).2.2 - b.2.2))
    else none
  | _, _ => some env
theorem z_br {cd : Nat} {σ : List Int} {env : List zIV} {a b : zAV} (gE : zge σ env) (h : zcmp cd (zev σ a) (zev σ b)) : ∃ env', zbr cd env a b = some env' ∧ zge σ env' := by
  unfold zbr
  split
  · rename_i q r hq hr
    have := z_ref h (z_iv gE hq) (z_iv gE hr)
    rw [if_pos (by simp only [Bool.and_eq_true, decide_eq_true_eq]; omega)]
    refine ⟨_, rfl, z_set (z_set gE ?_ ?_) ?_ ?_⟩ <;> (unfold zev at this; simp only; omega)
  · exact ⟨env, rfl, gE⟩
def zcn (cd : Jvm.ClassFile.Cond) : Nat := match cd with
  | .lt => 0
  | .ge => 1
  | .gt => 2
  | .le => 3
  | .eq => 4
  | .ne => 5
section ZBR
variable {kds : List zKD} {D : va_G} {cl : List vw_C} {cy : Nat → ClassId} {L : List Nat} {Θ : Nat → Option Nat} {h0 : Nat → Nat → Int} {eff : List (Nat × Nat × Nat)} {A : Nat → Prop} {H0 : Heap} {nL : Nat}
variable {p : Program} {l : Launch} {e : Env} {R : Room} {s : State} {m : MethodId} {args : Array Value} {below : List Frame} {meth : Method} {c : Code} {Q : State → Prop}
variable {cc : ByteArray} {σA : List Int} {pc : Nat} {as : zAS} {H : Heap} {locs : List Loc} {ls : Array Slot} {rest : List Value}
theorem z_icmp (hexec : p.tables.exec = Jvm.exec) (hb : c.code = cc) {cd : Jvm.ClassFile.Cond} {x y : Int32} {off : Int} {tgt : Nat} (hdg : decode cc pc = .ok (.if_icmp cd off, 3)) (ht : (pc : Int) + off = (tgt : Int))
    (kt : zcmp (zcn cd) x.toInt y.toInt → W p l e R s m args below meth c H locs 0 0 Q (F0 m tgt ls rest)) (kf : ¬ zcmp (zcn cd) x.toInt y.toInt → W p l e R s m args below meth c H locs 0 0 Q (F0 m (pc + 3) ls rest)) :
    W p l e R s m args below meth c H locs 0 0 Q (F0 m pc ls (.int y :: .int x :: rest)) := by
  cases cd with
  | lt => exact lv_icmp_lt hexec hb hdg ht (fun h => kt (Int32.lt_iff_toInt_lt.mp h)) (fun h => kf (fun g => h (Int32.lt_iff_toInt_lt.mpr g)))
  | ge => exact lv_icmp_ge hexec hb hdg ht (fun h => kt (Int32.le_iff_toInt_le.mp h)) (fun h => kf (fun g => h (Int32.le_iff_toInt_le.mpr g)))
  | gt => exact lv_icmp_gt hexec hb hdg ht (fun h => kt (Int32.lt_iff_toInt_lt.mp h)) (fun h => kf (fun g => h (Int32.lt_iff_toInt_lt.mpr g)))
  | le => exact lv_icmp_le hexec hb hdg ht (fun h => kt (Int32.le_iff_toInt_le.mp h)) (fun h => kf (fun g => h (Int32.le_iff_toInt_le.mpr g)))
  | eq => exact lv_icmp_eq hexec hb hdg ht (fun h => kt (by rw [h]; exact rfl)) (fun h => kf (fun g => h (Int32.toInt_inj.mp g)))
  | ne => exact lv_icmp_ne hexec hb hdg ht (fun h => kt (fun g => h (Int32.toInt_inj.mp g))) (fun h => kf (fun g => g (by rw [h])))
theorem z_ic0 (hexec : p.tables.exec = Jvm.exec) (hb : c.code = cc) {cd : Jvm.ClassFile.Cond} {x : Int32} {off : Int} {tgt : Nat} (hdg : decode cc pc = .ok (.ifCond cd off, 3)) (ht : (pc : Int) + off = (tgt : Int))
    (kt : zcmp (zcn cd) x.toInt 0 → W p l e R s m args below meth c H locs 0 0 Q (F0 m tgt ls rest)) (kf : ¬ zcmp (zcn cd) x.toInt 0 → W p l e R s m args below meth c H locs 0 0 Q (F0 m (pc + 3) ls rest)) :
    W p l e R s m args below meth c H locs 0 0 Q (F0 m pc ls (.int x :: rest)) := by
  have e0 : (0 : Int32).toInt = 0 := rfl
  rw [← e0] at kt kf
  cases cd with
  | lt => exact lv_if_lt hexec hb hdg ht (fun h => kt (Int32.lt_iff_toInt_lt.mp h)) (fun h => kf (fun g => h (Int32.lt_iff_toInt_lt.mpr g)))
  | ge => exact lv_if_ge hexec hb hdg ht (fun h => kt (Int32.le_iff_toInt_le.mp h)) (fun h => kf (fun g => h (Int32.le_iff_toInt_le.mpr g)))
  | gt => exact lv_if_gt hexec hb hdg ht (fun h => kt (Int32.lt_iff_toInt_lt.mp h)) (fun h => kf (fun g => h (Int32.lt_iff_toInt_lt.mpr g)))
  | le => exact lv_if_le hexec hb hdg ht (fun h => kt (Int32.le_iff_toInt_le.mp h)) (fun h => kf (fun g => h (Int32.le_iff_toInt_le.mpr g)))
  | eq => exact lv_if_eq hexec hb hdg ht (fun h => kt (by rw [h]; exact rfl)) (fun h => kf (fun g => h (Int32.toInt_inj.mp g)))
  | ne => exact lv_if_ne hexec hb hdg ht (fun h => kt (fun g => h (Int32.toInt_inj.mp g))) (fun h => kf (fun g => g (by rw [h])))
theorem zG_env {env' : List zIV} {st : List zAV} {σ : List Int} {h : Nat → Nat → Int} (g : zG η kds D cl cy L Θ h0 eff A H0 nL as σ h H locs ls) (hE : zge σ env') (hst : ∀ a ∈ st, zga Θ σ a) : zG η kds D cl cy L Θ h0 eff A H0 nL (env', as.2.1, st, as.2.2.2) σ h H locs ls := by
  obtain ⟨gE, gL, hl, gS, gV, gR, gH, gF, gX⟩ := g
  exact ⟨hE, gL, hl, hst, gV, gR, gH, gF, gX⟩
theorem zgo_icmp (hexec : p.tables.exec = Jvm.exec) (hb : c.code = cc) {cd : Jvm.ClassFile.Cond} {off : Int} {tgt : Nat} (hdg : decode cc pc = .ok (.if_icmp cd off, 3)) (ht : (pc : Int) + off = (tgt : Int)) {a b : zAV} {st : List zAV} (hs : as.2.2.1 = b :: a :: st) (hty : a.1 = 0 ∧ b.1 = 0)
    (kt : ∀ env', zbr (zcn cd) as.1 a b = some env' → zGo η kds D cl cy L Θ h0 eff A H0 nL p l e R s m args below meth c Q σA tgt (env', as.2.1, st, as.2.2.2))
    (kf : ∀ env', zbr (znot (zcn cd)) as.1 a b = some env' → zGo η kds D cl cy L Θ h0 eff A H0 nL p l e R s m args below meth c Q σA (pc + 3) (env', as.2.1, st, as.2.2.2)) :
    zGo η kds D cl cy L Θ h0 eff A H0 nL p l e R s m args below meth c Q σA pc as := by
  intro τ h H locs ls g
  have gS := g.2.2.2.1
  rw [hs] at gS ⊢
  obtain ⟨x, ex, hx⟩ := z_ci (gS a (List.mem_cons_of_mem _ List.mem_cons_self)) hty.1
  obtain ⟨y, ey, hy⟩ := z_ci (gS b List.mem_cons_self) hty.2
  have gst : ∀ q ∈ st, zga Θ (σA ++ τ) q := fun q hq => gS q (List.mem_cons_of_mem _ (List.mem_cons_of_mem _ hq))
  rw [List.map_cons, List.map_cons, ex, ey]
  refine z_icmp hexec hb hdg ht (fun hc => ?_) (fun hc => ?_)
  · rw [hx, hy] at hc
    obtain ⟨env', h1, h2⟩ := z_br g.1 hc
    exact kt env' h1 τ h H locs ls (zG_env g h2 gst)
  · rw [hx, hy] at hc
    obtain ⟨env', h1, h2⟩ := z_br g.1 (z_not hc)
    exact kf env' h1 τ h H locs ls (zG_env g h2 gst)
theorem z_e0 {σ : List Int} {env : List zIV} (gE : zge σ env) (h : env[0]? = some (0, 0)) (t : Nat) (n : Int) : zev σ (t, 0, n) = n := by
  unfold zev
  simp only
  rw [(z_c0 gE h).1]; simp
theorem zgo_if (hexec : p.tables.exec = Jvm.exec) (hb : c.code = cc) {cd : Jvm.ClassFile.Cond} {off : Int} {tgt : Nat} (hdg : decode cc pc = .ok (.ifCond cd off, 3)) (ht : (pc : Int) + off = (tgt : Int)) {a : zAV} {st : List zAV} (hs : as.2.2.1 = a :: st) (hty : a.1 = 0) (hc0 : as.1[0]? = some (0, 0))
    (kt : ∀ env', zbr (zcn cd) as.1 a (0, 0, 0) = some env' → zGo η kds D cl cy L Θ h0 eff A H0 nL p l e R s m args below meth c Q σA tgt (env', as.2.1, st, as.2.2.2))
    (kf : ∀ env', zbr (znot (zcn cd)) as.1 a (0, 0, 0) = some env' → zGo η kds D cl cy L Θ h0 eff A H0 nL p l e R s m args below meth c Q σA (pc + 3) (env', as.2.1, st, as.2.2.2)) :
    zGo η kds D cl cy L Θ h0 eff A H0 nL p l e R s m args below meth c Q σA pc as := by
  intro τ h H locs ls g
  have gS := g.2.2.2.1
  rw [hs] at gS ⊢
  obtain ⟨x, ex, hx⟩ := z_ci (gS a List.mem_cons_self) hty
  have gst : ∀ q ∈ st, zga Θ (σA ++ τ) q := fun q hq => gS q (List.mem_cons_of_mem _ hq)
  rw [List.map_cons, ex]
  refine z_ic0 hexec hb hdg ht (fun hc => ?_) (fun hc => ?_)
  · rw [hx, ← z_e0 g.1 hc0 0 0] at hc
    obtain ⟨env', h1, h2⟩ := z_br g.1 hc
    exact kt env' h1 τ h H locs ls (zG_env g h2 gst)
  · rw [hx, ← z_e0 g.1 hc0 0 0] at hc
    obtain ⟨env', h1, h2⟩ := z_br g.1 (z_not hc)
    exact kf env' h1 τ h H locs ls (zG_env g h2 gst)
/-- a reference: null or not -/
theorem z_rr {σ : List Int} {a : zAV} {k : Nat} (h : zga Θ σ a) (ht : a.1 = k + 2) : (zev σ a = -1 ∧ zvo η σ a = .null) ∨ (0 ≤ zev σ a ∧ Θ (zev σ a).toNat = some k ∧ zvo η σ a = .ref (η.1 (zev σ a).toNat)) := by
  obtain ⟨t, i, o⟩ := a
  simp only at ht
  subst ht
  have h2 := h.2
  simp only [zok] at h2
  rcases h2 with h2 | ⟨h2, h3⟩
  · refine Or.inl ⟨h2, ?_⟩
    unfold zvo
    rw [h2]
    rfl
  · refine Or.inr ⟨h2, h3, ?_⟩
    unfold zvo
    show va_rf (zrf η _) = _
    unfold zrf
    rw [if_neg (by omega)]
    rfl
theorem zgo_null (hexec : p.tables.exec = Jvm.exec) (hb : c.code = cc) {off : Int} {tgt : Nat} (hdg : decode cc pc = .ok (.ifnull off, 3)) (ht : (pc : Int) + off = (tgt : Int)) {a : zAV} {k : Nat} {st : List zAV} (hs : as.2.2.1 = a :: st) (hty : a.1 = k + 2) (hc0 : as.1[0]? = some (0, 0))
    (kt : ∀ env', zbr 0 as.1 a (0, 0, 0) = some env' → zGo η kds D cl cy L Θ h0 eff A H0 nL p l e R s m args below meth c Q σA tgt (env', as.2.1, st, as.2.2.2))
    (kf : ∀ env', zbr 1 as.1 a (0, 0, 0) = some env' → zGo η kds D cl cy L Θ h0 eff A H0 nL p l e R s m args below meth c Q σA (pc + 3) (env', as.2.1, st, as.2.2.2)) :
    zGo η kds D cl cy L Θ h0 eff A H0 nL p l e R s m args below meth c Q σA pc as := by
  intro τ h H locs ls g
  have gS := g.2.2.2.1
  rw [hs] at gS ⊢
  have gst : ∀ q ∈ st, zga Θ (σA ++ τ) q := fun q hq => gS q (List.mem_cons_of_mem _ hq)
  rw [List.map_cons]
  rcases z_rr (gS a List.mem_cons_self) hty with ⟨h1, ex⟩ | ⟨h1, h2, ex⟩
  · rw [ex]
    refine lv_ifnullN hexec hb hdg ht ?_
    obtain ⟨env', h3, h4⟩ := z_br (cd := 0) (a := a) (b := (0, 0, 0)) g.1 (by rw [z_e0 g.1 hc0 0 0, h1]; exact (by decide : (-1 : Int) < 0))
    exact kt env' h3 τ h H locs ls (zG_env g h4 gst)
  · rw [ex]
    refine lv_ifnull hexec hb hdg ?_
    obtain ⟨env', h3, h4⟩ := z_br (cd := 1) (a := a) (b := (0, 0, 0)) g.1 (by rw [z_e0 g.1 hc0 0 0]; exact h1)
    exact kf env' h3 τ h H locs ls (zG_env g h4 gst)
theorem zgo_nonnull (hexec : p.tables.exec = Jvm.exec) (hb : c.code = cc) {off : Int} {tgt : Nat} (hdg : decode cc pc = .ok (.ifnonnull off, 3)) (ht : (pc : Int) + off = (tgt : Int)) {a : zAV} {k : Nat} {st : List zAV} (hs : as.2.2.1 = a :: st) (hty : a.1 = k + 2) (hc0 : as.1[0]? = some (0, 0))
    (kt : ∀ env', zbr 1 as.1 a (0, 0, 0) = some env' → zGo η kds D cl cy L Θ h0 eff A H0 nL p l e R s m args below meth c Q σA tgt (env', as.2.1, st, as.2.2.2))
    (kf : ∀ env', zbr 0 as.1 a (0, 0, 0) = some env' → zGo η kds D cl cy L Θ h0 eff A H0 nL p l e R s m args below meth c Q σA (pc + 3) (env', as.2.1, st, as.2.2.2)) :
    zGo η kds D cl cy L Θ h0 eff A H0 nL p l e R s m args below meth c Q σA pc as := by
  intro τ h H locs ls g
  have gS := g.2.2.2.1
  rw [hs] at gS ⊢
  have gst : ∀ q ∈ st, zga Θ (σA ++ τ) q := fun q hq => gS q (List.mem_cons_of_mem _ hq)
  rw [List.map_cons]
  rcases z_rr (gS a List.mem_cons_self) hty with ⟨h1, ex⟩ | ⟨h1, h2, ex⟩
  · rw [ex]
    refine lv_ifnonnullN hexec hb hdg ?_
    obtain ⟨env', h3, h4⟩ := z_br (cd := 0) (a := a) (b := (0, 0, 0)) g.1 (by rw [z_e0 g.1 hc0 0 0, h1]; exact (by decide : (-1 : Int) < 0))
    exact kf env' h3 τ h H locs ls (zG_env g h4 gst)
  · rw [ex]
    refine lv_ifnonnull hexec hb hdg ht ?_
    obtain ⟨env', h3, h4⟩ := z_br (cd := 1) (a := a) (b := (0, 0, 0)) g.1 (by rw [z_e0 g.1 hc0 0 0]; exact h1)
    exact kt env' h3 τ h H locs ls (zG_env g h4 gst)
end ZBR
end
section
variable {η : zRn}
/-! the heap: slots of cells -/
def zup (h : Nat → Nat → Int) (a j : Nat) (x : Int) : Nat → Nat → Int := fun b i => if b = a ∧ i = j then x else h b i
theorem zup_at (h : Nat → Nat → Int) (a j : Nat) (x : Int) : zup h a j x a j = x := by simp [zup]
theorem zup_ne {h : Nat → Nat → Int} {a j b i : Nat} {x : Int} (e : ¬ (b = a ∧ i = j)) : zup h a j x b i = h b i := by unfold zup; rw [if_neg e]
theorem zup_row {h : Nat → Nat → Int} {a j b : Nat} {x : Int} (e : b ≠ a) : zup h a j x b = h b := by
  funext i
  exact zup_ne (fun q => e q.1)
theorem zf_at {kds : List zKD} {cy : Nat → ClassId} {Θ : Nat → Option Nat} {h : Nat → Nat → Int} {a k : Nat} {K : zKD} (h1 : Θ a = some k) (h2 : kds[k]? = some K) : zf η kds cy Θ h a = zE η cy K (h a) := by
  unfold zf
  rw [h1]
  simp [List.getD_eq_getElem?_getD, h2]
theorem zF_at {kds : List zKD} {cy : Nat → ClassId} {Θ : Nat → Option Nat} {h : Nat → Nat → Int} {a k : Nat} {K : zKD} (h0 : η.2 (η.1 a) = a) (h1 : Θ a = some k) (h2 : kds[k]? = some K) : zF η kds cy Θ h (η.1 a) = zE η cy K (h a) := by
  unfold zF
  rw [h0]
  exact zf_at h1 h2
theorem zpl_congr {L : List Nat} {f g : Nat → va_E} (h : ∀ q ∈ L, f q = g q) : va_pl L f = va_pl L g := by
  unfold va_pl
  exact List.map_congr_left fun q hq => by rw [h q hq]
theorem zE_o {cy : Nat → ClassId} {K : zKD} {g : Nat → Int} (h : K.1 = 0) : zE η cy K g = .inr (K.2.1, (List.range K.2.2.1).map (fun j => zdec η (zty K j).1 (g j))) := by
  unfold zE; rw [h]; rfl
theorem zE_i {cy : Nat → ClassId} {K : zKD} {g : Nat → Int} (h : K.1 = 1) : zE η cy K g = .inl (cy K.2.1, K.2.2.1, .inl (fun j => Int32.ofInt (g j))) := by
  unfold zE; rw [h]; rfl
theorem zE_q {cy : Nat → ClassId} {K : zKD} {g : Nat → Int} (h : K.1 = 2) : zE η cy K g = .inl (cy K.2.1, K.2.2.1, .inr (.inr (.inr (.inr (fun j => zrf η (g j)))))) := by
  unfold zE; rw [h]; rfl
section ZHP
variable {kds : List zKD} {D : va_G} {cl : List vw_C} {cy : Nat → ClassId} {L : List Nat} {Θ : Nat → Option Nat} {h0 : Nat → Nat → Int} {eff : List (Nat × Nat × Nat)} {A : Nat → Prop} {H0 : Heap} {nL : Nat}
theorem zH_get {h : Nat → Nat → Int} {H : Heap} {a k : Nat} {K : zKD} (g : zH η kds D cl cy L Θ h H) (h1 : Θ a = some k) (h2 : kds[k]? = some K) (h3 : K.1 ≤ 2) : ∃ q0 : Nat, ([] ++ va_pl L (zF η kds cy Θ h))[q0]? = some (η.1 a, zE η cy K (h a)) := by
  obtain ⟨K', e1, e2, -⟩ := g.2.2 a k h1
  cases h2.symm.trans e1
  obtain ⟨q0, hq⟩ := va_pl_get (X := []) (f := zF η kds cy Θ h) (e2 h3).1
  exact ⟨q0, by rw [hq, zF_at (e2 h3).2 h1 h2]⟩
theorem zH_in {h : Nat → Nat → Int} {H : Heap} {a k : Nat} {K : zKD} (g : zH η kds D cl cy L Θ h H) (h1 : Θ a = some k) (h2 : kds[k]? = some K) {j : Nat} (hj : j < K.2.2.1) : zok Θ (zty K j).1 (h a j) ∧ (zty K j).2.1 ≤ h a j ∧ h a j ≤ (zty K j).2.2 := by
  obtain ⟨K', e1, -, e3⟩ := g.2.2 a k h1
  cases h2.symm.trans e1
  exact e3 j hj
/-- the world behind a write -/
theorem zH_put {h : Nat → Nat → Int} {H H1 : Heap} {a k j q0 : Nat} {K : zKD} {x : Int} (g : zH η kds D cl cy L Θ h H) (hD : va_D A ([] ++ va_pl L (zF η kds cy Θ h))) (h1 : Θ a = some k) (h2 : kds[k]? = some K) (h3 : K.1 ≤ 2) (hj : j < K.2.2.1)
    (hx : zok Θ (zty K j).1 x ∧ (zty K j).2.1 ≤ x ∧ x ≤ (zty K j).2.2) (hq : ([] ++ va_pl L (zF η kds cy Θ h))[q0]? = some (η.1 a, zE η cy K (h a)))
    (hP : va_P D cl (([] ++ va_pl L (zF η kds cy Θ h)).set q0 (η.1 a, zE η cy K (zup h a j x a))) H1) : zH η kds D cl cy L Θ (zup h a j x) H1 := by
  obtain ⟨K', e1, e2, -⟩ := g.2.2 a k h1
  cases h2.symm.trans e1
  obtain ⟨e3, e4⟩ := e2 h3
  refine ⟨?_, g.2.1, fun b kb hb => ?_⟩
  · rw [va_pl_set hD e3 (by rw [hq, zF_at e4 h1 h2])] at hP
    rw [zpl_congr (g := va_up (zF η kds cy Θ h) (η.1 a) (zE η cy K (zup h a j x a)))]
    · exact hP
    · intro b hbL
      by_cases hb : b = η.1 a
      · subst hb
        rw [va_up_self, zF_at e4 h1 h2]
      · rw [va_up_ne _ _ hb]
        unfold zF zf
        rw [zup_row (fun e => hb (by rw [← e]; exact (g.2.1 b hbL).symm))]
  · obtain ⟨Kb, f1, f2, f3⟩ := g.2.2 b kb hb
    refine ⟨Kb, f1, f2, fun i hi => ?_⟩
    by_cases e : b = a ∧ i = j
    · obtain ⟨rfl, rfl⟩ := e
      cases h1.symm.trans hb
      cases h2.symm.trans f1
      rw [zup_at]
      exact hx
    · rw [zup_ne e]
      exact f3 i hi
/-! overrides -/
def zlook : List zOV → Nat → Nat → Nat → Option zAV
  | [], _, _, _ => none
  | ((k, i), j, v) :: r, kk, sy, sl => if (decide (k = kk) && decide (i = sy) && decide (j = sl)) = true then some v else zlook r kk sy sl
theorem z_look {ov : List zOV} {kk sy sl : Nat} {v : zAV} (h : zlook ov kk sy sl = some v) : ((kk, sy), sl, v) ∈ ov := by
  induction ov with
  | nil => cases h
  | cons q r ih =>
    obtain ⟨⟨k, i⟩, j, w⟩ := q
    unfold zlook at h
    split at h
    · rename_i e
      simp only [Bool.and_eq_true, decide_eq_true_eq] at e
      obtain ⟨⟨rfl, rfl⟩, rfl⟩ := e
      cases h
      exact List.mem_cons_self
    · exact List.mem_cons_of_mem _ (ih h)
/-- a slot is read: what is known of it, or a new symbol -/
def zrd (kds : List zKD) (env : List zIV) (ov : List zOV) (kk sy sl : Nat) : Option (List zIV × List zOV × zAV) :=
  match kds[kk]? with
  | none => none
  | some K =>
    if sl < K.2.2.1 then
      match zlook ov kk sy sl with
      | some v => if v.1 = (zty K sl).1 then some (env, ov, v) else none
      | none => some (env ++ [((zty K sl).2.1, (zty K sl).2.2)], ((kk, sy), sl, ((zty K sl).1, env.length, 0)) :: ov, ((zty K sl).1, env.length, 0))
    else none
theorem z_rd {env env' : List zIV} {ov ov' : List zOV} {kk sy sl : Nat} {v : zAV} {σ : List Int} {h : Nat → Nat → Int} {H : Heap} (hr : zrd kds env ov kk sy sl = some (env', ov', v)) (gE : zge σ env) (gV : zgv Θ h σ ov) (gH : zH η kds D cl cy L Θ h H) (hs : sy < σ.length) (h1 : 0 ≤ σ.getD sy 0) (h2 : Θ (σ.getD sy 0).toNat = some kk) :
    ∃ τ : List Int, zge (σ ++ τ) env' ∧ zgv Θ h (σ ++ τ) ov' ∧ zga Θ (σ ++ τ) v ∧ zev (σ ++ τ) v = h (σ.getD sy 0).toNat sl ∧ ∃ K, kds[kk]? = some K ∧ sl < K.2.2.1 ∧ v.1 = (zty K sl).1 := by
  unfold zrd at hr
  split at hr
  · cases hr
  · rename_i K hK
    split at hr
    · rename_i hsl
      split at hr
      · rename_i w hw
        split at hr
        · rename_i ht
          cases hr
          obtain ⟨-, g2, -, -, g5⟩ := gV _ (z_look hw)
          exact ⟨[], by rw [List.append_nil]; exact gE, by rw [List.append_nil]; exact gV, by rw [List.append_nil]; exact g2, by rw [List.append_nil]; exact g5.symm, K, hK, hsl, ht⟩
        · cases hr
      · cases hr
        obtain ⟨b1, b2, b3⟩ := zH_in gH h2 hK hsl
        have ev : zev (σ ++ [h (σ.getD sy 0).toNat sl]) ((zty K sl).1, env.length, 0) = h (σ.getD sy 0).toNat sl := by
          unfold zev
          simp only
          rw [z_gn gE]; simp
        have ga : zga Θ (σ ++ [h (σ.getD sy 0).toNat sl]) ((zty K sl).1, env.length, 0) := ⟨z_len gE, by rw [ev]; exact b1⟩
        refine ⟨[h (σ.getD sy 0).toNat sl], z_ge gE b2 b3, ?_, ga, ev, K, hK, hsl, rfl⟩
        intro o ho
        rcases List.mem_cons.mp ho with rfl | ho
        · refine ⟨by simp; omega, ga, ?_⟩
          simp only
          rw [z_gd hs]
          exact ⟨h1, h2, ev.symm⟩
        · exact z_gv gV o ho
    · cases hr
/-- behind a write -/
def zwr (ov : List zOV) (kk sy sl : Nat) (v : zAV) : List zOV := ((kk, sy), sl, v) :: ov.filter (fun o => !(decide (o.1.1 = kk) && decide (o.2.1 = sl)))
theorem z_wr {ov : List zOV} {kk sy sl : Nat} {v : zAV} {σ : List Int} {h : Nat → Nat → Int} (gV : zgv Θ h σ ov) (hv : zga Θ σ v) (hs : sy < σ.length) (h1 : 0 ≤ σ.getD sy 0) (h2 : Θ (σ.getD sy 0).toNat = some kk) : zgv Θ (zup h (σ.getD sy 0).toNat sl (zev σ v)) σ (zwr ov kk sy sl v) := by
  intro o ho
  rcases List.mem_cons.mp ho with rfl | ho
  · exact ⟨hs, hv, h1, h2, by simp only; rw [zup_at]⟩
  · obtain ⟨ho, hne⟩ := List.mem_filter.mp ho
    obtain ⟨g1, g2, g3, g4, g5⟩ := gV o ho
    refine ⟨g1, g2, g3, g4, ?_⟩
    rw [zup_ne]
    · exact g5
    · rintro ⟨e1, e2⟩
      rw [e1, h2] at g4
      cases g4
      simp [e2] at hne
theorem z_D {f : Nat → va_E} (hn : L.Nodup) (hA : ∀ a ∈ L, A a) : va_D A ([] ++ va_pl L f) := by
  rw [List.nil_append]
  refine ⟨fun i j x y hx hy e => ?_, fun k q hq => ?_⟩
  · unfold va_pl at hx hy
    rw [List.getElem?_map] at hx hy
    obtain ⟨u, hu, rfl⟩ := Option.map_eq_some_iff.mp hx
    obtain ⟨w, hw, rfl⟩ := Option.map_eq_some_iff.mp hy
    simp only at e
    subst e
    have hi := (List.getElem?_eq_some_iff.mp hu).1
    exact (List.getElem?_inj hi hn).mp (hu.trans hw.symm)
  · unfold va_pl at hq
    rw [List.getElem?_map] at hq
    obtain ⟨u, hu, rfl⟩ := Option.map_eq_some_iff.mp hq
    exact hA u (List.mem_of_getElem? hu)
end ZHP
end
section
variable {η : zRn}
/-! instructions that read or write the heap -/
theorem z_fs {K : zKD} {g : Nat → Int} {k : Nat} (h : k < K.2.2.1) : ((List.range K.2.2.1).map (fun j => zdec η (zty K j).1 (g j)))[k]? = some (zdec η (zty K k).1 (g k)) := by
  rw [List.getElem?_map, List.getElem?_range h]
  rfl
theorem z_fset {K : zKD} {h : Nat → Nat → Int} {a k : Nat} {x : Int} : ((List.range K.2.2.1).map (fun j => zdec η (zty K j).1 (h a j))).set k (zdec η (zty K k).1 x) = (List.range K.2.2.1).map (fun j => zdec η (zty K j).1 (zup h a k x a j)) := by
  apply List.ext_getElem?
  intro i
  by_cases e : k = i
  · subst e
    rw [List.getElem?_set]
    simp only [if_true]
    by_cases hk : k < K.2.2.1
    · rw [if_pos (by simpa using hk), z_fs (g := fun j => zup h a k x a j) hk, zup_at]
    · rw [if_neg (by simpa using hk), List.getElem?_eq_none (by simpa using hk)]
  · rw [List.getElem?_set_ne e]
    rw [List.getElem?_map, List.getElem?_map]
    cases hi : (List.range K.2.2.1)[i]? with
    | none => rfl
    | some j =>
      have : j = i := by
        have := List.getElem?_eq_some_iff.mp hi
        obtain ⟨h1, h2⟩ := this
        simpa using h2.symm
      subst this
      simp only [Option.map_some]
      rw [zup_ne (fun q => e q.2.symm)]
/-- a value as one of a type: null is of every kind -/
def zcast (env : List zIV) (tag : Nat) (v : zAV) : Option zAV :=
  if v.1 = tag then some v
  else if (decide (2 ≤ tag) && decide (2 ≤ v.1) && decide (ziv env v = some (-1, -1))) = true then some (tag, v.2.1, v.2.2) else none
theorem z_null (t : Nat) (h : 2 ≤ t) : zdec η t (-1) = .null := by
  match t, h with
  | t + 2, _ => rfl
theorem z_cast {Θ : Nat → Option Nat} {σ : List Int} {env : List zIV} {tag : Nat} {v w : zAV} (h : zcast env tag v = some w) (gE : zge σ env) (gv : zga Θ σ v) : w.1 = tag ∧ zga Θ σ w ∧ zev σ w = zev σ v ∧ zvo η σ w = zvo η σ v := by
  unfold zcast at h
  split at h
  · rename_i e
    cases h
    exact ⟨e, gv, rfl, rfl⟩
  · split at h
    · rename_i e
      simp only [Bool.and_eq_true, decide_eq_true_eq] at e
      obtain ⟨⟨e1, e2⟩, e3⟩ := e
      cases h
      have b := z_iv gE e3
      simp only at b
      have e4 : zev σ v = -1 := by omega
      have e5 : zev σ (tag, v.2.1, v.2.2) = -1 := e4
      refine ⟨rfl, ⟨gv.1, ?_⟩, rfl, ?_⟩
      · rw [e5]
        match tag, e1 with
        | t + 2, _ => exact Or.inl rfl
      · unfold zvo
        rw [e4, e5]
        simp only
        rw [z_null _ e1, z_null _ e2]
    · cases h
/-- the value fits the type of a slot -/
def zfits (env : List zIV) (τ : Nat × Int × Int) (v : zAV) : Bool := match ziv env v with
  | some q => decide (v.1 = τ.1) && decide (τ.2.1 ≤ q.1) && decide (q.2 ≤ τ.2.2)
  | none => false
theorem z_fits {Θ : Nat → Option Nat} {σ : List Int} {env : List zIV} {τ : Nat × Int × Int} {v : zAV} (h : zfits env τ v = true) (gE : zge σ env) (gv : zga Θ σ v) : v.1 = τ.1 ∧ zok Θ τ.1 (zev σ v) ∧ τ.2.1 ≤ zev σ v ∧ zev σ v ≤ τ.2.2 := by
  unfold zfits at h
  split at h
  · rename_i q hq
    simp only [Bool.and_eq_true, decide_eq_true_eq] at h
    have := z_iv gE hq
    refine ⟨h.1.1, by rw [← h.1.1]; exact gv.2, by omega, by omega⟩
  · cases h
/-- a field's type and a slot's -/
def zfty (ty : FieldType) (τ : Nat × Int × Int) : Bool := match ty, τ.1 with
  | .int, 0 => true
  | .boolean, 0 => decide (0 ≤ τ.2.1) && decide (τ.2.2 ≤ 1)
  | .long, 1 => true
  | .object _, _ + 2 => true
  | .array _, _ + 2 => true
  | _, _ => false
theorem z_b01 : ∀ k : Fin 2, narrow .boolean (.int (Int32.ofInt (k.val : Int))) = .int (Int32.ofInt (k.val : Int)) ∧ fits .boolean (.int (Int32.ofInt (k.val : Int))) = true := by decide +kernel
theorem z_fty {Θ : Nat → Option Nat} {ty : FieldType} {τ : Nat × Int × Int} {x : Int} (h : zfty ty τ = true) (hx : zok Θ τ.1 x) (h1 : τ.2.1 ≤ x) (h2 : x ≤ τ.2.2) : narrow ty (zdec η τ.1 x) = zdec η τ.1 x ∧ fits ty (zdec η τ.1 x) = true := by
  unfold zfty at h
  split at h
  · rename_i e
    rw [e]
    exact ⟨rfl, rfl⟩
  · rename_i e
    simp only [Bool.and_eq_true, decide_eq_true_eq] at h
    rw [e]
    have := z_b01 ⟨x.toNat, by omega⟩
    simp only at this
    rw [show ((x.toNat : Nat) : Int) = x by omega] at this
    exact this
  · rename_i e
    rw [e]
    exact ⟨rfl, rfl⟩
  · rename_i e
    rw [e]
    show narrow _ (va_rf (zrf η x)) = va_rf (zrf η x) ∧ fits _ (va_rf (zrf η x)) = true
    cases zrf η x <;> exact ⟨rfl, rfl⟩
  · rename_i e
    rw [e]
    show narrow _ (va_rf (zrf η x)) = va_rf (zrf η x) ∧ fits _ (va_rf (zrf η x)) = true
    cases zrf η x <;> exact ⟨rfl, rfl⟩
  · cases h
theorem z_iE {eff : List (Nat × Nat × Nat)} {k lo hi j : Nat} (h : zinE eff k lo hi = true) (h1 : lo ≤ j) (h2 : j ≤ hi) : zinE eff k j j = true := by
  unfold zinE at *
  rw [List.any_eq_true] at *
  obtain ⟨e, he, h⟩ := h
  refine ⟨e, he, ?_⟩
  simp only [Bool.and_eq_true, decide_eq_true_eq] at *
  omega
section ZHI
variable {kds : List zKD} {D : va_G} {cl : List vw_C} {cy : Nat → ClassId} {L : List Nat} {Θ : Nat → Option Nat} {h0 : Nat → Nat → Int} {eff : List (Nat × Nat × Nat)} {A : Nat → Prop} {H0 : Heap} {nL : Nat}
variable {p : Program} {l : Launch} {e : Env} {R : Room} {s : State} {m : MethodId} {args : Array Value} {below : List Frame} {meth : Method} {c : Code} {Q : State → Prop}
variable {cc : ByteArray} {σA : List Int} {pc : Nat} {as : zAS} {tys : List (ClassId × FieldType)} {Ts : List Cond} {own : String}
/-- a reference that is not null, without an offset -/
def znn (env : List zIV) (a : zAV) : Bool := match ziv env a with
  | some q => decide (0 ≤ q.1) && decide (a.2.2 = 0)
  | none => false
theorem z_nnr {σ : List Int} {env : List zIV} {a : zAV} {kk : Nat} (h : znn env a = true) (gE : zge σ env) (ga : zga Θ σ a) (ht : a.1 = kk + 2) : zvo η σ a = .ref (η.1 (σ.getD a.2.1 0).toNat) ∧ 0 ≤ σ.getD a.2.1 0 ∧ Θ (σ.getD a.2.1 0).toNat = some kk := by
  unfold znn at h
  split at h
  · rename_i q hq
    simp only [Bool.and_eq_true, decide_eq_true_eq] at h
    have b := z_iv gE hq
    have ev : zev σ a = σ.getD a.2.1 0 := by unfold zev; rw [h.2]; simp
    rcases z_rr ga ht with ⟨e1, -⟩ | ⟨e1, e2, e3⟩
    · omega
    · rw [ev] at e1 e2 e3
      exact ⟨e3, e1, e2⟩
  · cases h
theorem zgo_get (hexec : p.tables.exec = Jvm.exec) (hb : c.code = cc) (hts : ∀ w ∈ Ts, w.before args s = true) (hown : s.vm.findClass own = some m.cls) (hK : va_K D cl tys s)
    {idx ci k kk : Nat} {C : String} {T : u_T} {N : Nat} (hc : cl[ci]? = some (C, T, N)) (hin : ∀ w ∈ u_ws C T N, w ∈ Ts) (hkN : k < N) (hlink : Cond.fieldLink own idx (T k).1 (T k).2.1 (T k).2.2.1 ∈ Ts)
    {a v : zAV} {st : List zAV} {env' : List zIV} {ov' : List zOV} {K : zKD} (hs : as.2.2.1 = a :: st) (ht : a.1 = kk + 2) (hn : znn as.1 a = true) (hKd : kds[kk]? = some K) (hKf : K.1 = 0 ∧ K.2.1 = ci) (hr : zrd kds as.1 as.2.2.2.1 kk a.2.1 k = some (env', ov', v))
    (hdg : decode cc pc = .ok (.getfield idx, 3))
    (k' : zGo η kds D cl cy L Θ h0 eff A H0 nL p l e R s m args below meth c Q σA (pc + 3) (env', as.2.1, v :: st, ov', as.2.2.2.2)) : zGo η kds D cl cy L Θ h0 eff A H0 nL p l e R s m args below meth c Q σA pc as := by
  intro τ h H locs ls g
  obtain ⟨gE, gL, hl, gS, gV, gR, gH, gF, gX⟩ := g
  rw [hs] at gS ⊢
  have ga := gS a List.mem_cons_self
  obtain ⟨ea, na, Θa⟩ := z_nnr hn gE ga ht
  obtain ⟨τ', gE', gV', gv, ev, K', hK', hsl, hvt⟩ := z_rd hr gE gV gH ga.1 na Θa
  cases hKd.symm.trans hK'
  obtain ⟨q0, hq⟩ := zH_get gH Θa hKd (by omega)
  rw [zE_o hKf.1, hKf.2] at hq
  rw [List.map_cons, ea]
  refine va_get (v := zvo η ((σA ++ τ) ++ τ') v) hexec hb hts hin hown hK gH.1 q0 hq hc k hkN (hts _ hlink) (fun _ x => x) ?_ hdg ?_
  · rw [z_fs hsl]
    unfold zvo
    rw [ev, hvt]
  · have gst : ∀ q ∈ st, zga Θ (σA ++ τ) q := fun q hq => gS q (List.mem_cons_of_mem _ hq)
    have w := k' (τ ++ τ') h H locs ls ⟨by rw [← List.append_assoc]; exact gE', fun q hq => by rw [← List.append_assoc]; exact z_ga (gL q hq), by rw [← List.append_assoc]; exact z_lv gL hl, ?_, by rw [← List.append_assoc]; exact gV', by rw [← List.append_assoc]; exact z_gr gR, gH, gF, gX⟩
    · simp only [List.map_cons, ← List.append_assoc] at w
      rw [z_st gst] at w
      exact w
    · intro b hb
      rw [← List.append_assoc]
      rcases List.mem_cons.mp hb with rfl | hb
      · exact gv
      · exact z_ga (gst b hb)
theorem zgo_put (hexec : p.tables.exec = Jvm.exec) (hb : c.code = cc) (hts : ∀ w ∈ Ts, w.before args s = true) (hown : s.vm.findClass own = some m.cls) (hK : va_K D cl tys s) (hnd : L.Nodup) (hLA : ∀ a ∈ L, A a)
    {idx ci k kk : Nat} {C : String} {T : u_T} {N : Nat} (hc : cl[ci]? = some (C, T, N)) (hin : ∀ w ∈ u_ws C T N, w ∈ Ts) (ty0 : Nat → FieldType) (hty : ∀ k, k < N → parseFieldDescriptor (T k).2.2.1 = some (ty0 k)) (hnm : ∀ a, a < N → ∀ b, b < N → a ≠ b → (T a).2.1 ≠ (T b).2.1)
    (hkN : k < N) (hlink : Cond.fieldLink own idx (T k).1 (T k).2.1 (T k).2.2.1 ∈ Ts) (hfin : (T k).2.2.2 = false)
    {a v w : zAV} {st : List zAV} {K : zKD} (hs : as.2.2.1 = v :: a :: st) (ht : a.1 = kk + 2) (hn : znn as.1 a = true) (hKd : kds[kk]? = some K) (hKf : K.1 = 0 ∧ K.2.1 = ci) (hkK : k < K.2.2.1) (hw : zcast as.1 (zty K k).1 v = some w) (hfit : zfits as.1 (zty K k) w = true) (hft : zfty (ty0 k) (zty K k) = true) (hef : zinE eff kk k k = true)
    (hdg : decode cc pc = .ok (.putfield idx, 3))
    (k' : zGo η kds D cl cy L Θ h0 eff A H0 nL p l e R s m args below meth c Q σA (pc + 3) (as.1, as.2.1, st, zwr as.2.2.2.1 kk a.2.1 k w, as.2.2.2.2)) : zGo η kds D cl cy L Θ h0 eff A H0 nL p l e R s m args below meth c Q σA pc as := by
  intro τ h H locs ls g
  obtain ⟨gE, gL, hl, gS, gV, gR, gH, gF, gX⟩ := g
  rw [hs] at gS ⊢
  have gv := gS v List.mem_cons_self
  have ga := gS a (List.mem_cons_of_mem _ List.mem_cons_self)
  obtain ⟨ea, na, Θa⟩ := z_nnr hn gE ga ht
  obtain ⟨wt, gw, ew, vw⟩ := z_cast hw gE gv
  obtain ⟨-, b1, b2, b3⟩ := z_fits hfit gE gw
  obtain ⟨c1, c2⟩ := z_fty hft b1 b2 b3
  have hD : va_D A ([] ++ va_pl L (zF η kds cy Θ h)) := z_D hnd hLA
  obtain ⟨q0, hq⟩ := zH_get gH Θa hKd (by omega)
  have hq' := hq
  rw [zE_o hKf.1, hKf.2] at hq
  rw [List.map_cons, List.map_cons, ea, ← vw]
  have evw : zvo η (σA ++ τ) w = zdec η (zty K k).1 (zev (σA ++ τ) w) := by unfold zvo; rw [wt]
  rw [evw]
  refine va_put hexec hb hts hin ty0 hty hnm hown hK gH.1 hD gF q0 hq hc k hkN (hts _ hlink) (fun _ x => x) hfin (hty k hkN) c1 c2 (by simpa using hkK) hdg (fun H1 locs1 hP1 hD1 hS1 => ?_)
  have gH1 : zH η kds D cl cy L Θ (zup h ((σA ++ τ).getD a.2.1 0).toNat k (zev (σA ++ τ) w)) H1 := by
    refine zH_put gH hD Θa hKd (by omega) hkK ⟨b1, b2, b3⟩ hq' ?_
    rw [zE_o hKf.1, hKf.2, ← z_fset]
    exact hP1
  refine k' τ _ H1 locs1 ls ⟨gE, gL, hl, fun q hq => gS q (List.mem_cons_of_mem _ (List.mem_cons_of_mem _ hq)), z_wr gV gw ga.1 na Θa, gR, gH1, hS1, fun b kb j hb hj => ?_⟩
  rw [zup_ne]
  · exact gX b kb j hb hj
  · rintro ⟨rfl, rfl⟩
    cases Θa.symm.trans hb
    rw [hef] at hj
    cases hj
end ZHI
end
section
variable {η : zRn}
/-! arrays -/
/-- the type of all slots from lo to lo + n -/
def zel (K : zKD) : Nat → Nat → Option (Nat × Int × Int)
  | lo, 0 => some (zty K lo)
  | lo, n + 1 => match zel K (lo + 1) n with
    | some r => if (zty K lo).1 = r.1 then some (r.1, min r.2.1 (zty K lo).2.1, max r.2.2 (zty K lo).2.2) else none
    | none => none
def zelm (K : zKD) (lo hi : Nat) : Option (Nat × Int × Int) := if K.2.2.2.length = 1 then some (zty K 0) else zel K lo (hi - lo)
theorem z_el {K : zKD} : ∀ {n lo : Nat} {r : Nat × Int × Int}, zel K lo n = some r → ∀ j, lo ≤ j → j ≤ lo + n → (zty K j).1 = r.1 ∧ r.2.1 ≤ (zty K j).2.1 ∧ (zty K j).2.2 ≤ r.2.2 := by
  intro n
  induction n with
  | zero =>
    intro lo r h j h1 h2
    have : j = lo := by omega
    subst this
    cases h
    exact ⟨rfl, Int.le_refl _, Int.le_refl _⟩
  | succ n ih =>
    intro lo r h j h1 h2
    unfold zel at h
    split at h
    · rename_i q hq
      split at h
      · rename_i e
        cases h
        simp only
        by_cases ej : j = lo
        · subst ej
          exact ⟨e, by omega, by omega⟩
        · obtain ⟨f1, f2, f3⟩ := ih hq j (by omega) (by omega)
          exact ⟨f1, by omega, by omega⟩
      · cases h
    · cases h
theorem z_elm {K : zKD} {lo hi : Nat} {r : Nat × Int × Int} (h : zelm K lo hi = some r) {j : Nat} (h1 : lo ≤ j) (h2 : j ≤ hi) : (zty K j).1 = r.1 ∧ r.2.1 ≤ (zty K j).2.1 ∧ (zty K j).2.2 ≤ r.2.2 := by
  unfold zelm at h
  split at h
  · rename_i e
    cases h
    have : zty K j = zty K 0 := by
      unfold zty
      rw [e, Nat.mod_one, Nat.mod_one]
    rw [this]
    exact ⟨rfl, Int.le_refl _, Int.le_refl _⟩
  · exact z_el h j h1 (by omega)
/-- an element is read -/
def zald (kds : List zKD) (env : List zIV) (ov : List zOV) (kk sy : Nat) (K : zKD) (q : zIV) : Option (List zIV × List zOV × zAV) :=
  if q.1 = q.2 then zrd kds env ov kk sy q.1.toNat
  else match zelm K q.1.toNat q.2.toNat with
    | some r => some (env ++ [(r.2.1, r.2.2)], ov, (r.1, env.length, 0))
    | none => none
section ZAR
variable {kds : List zKD} {D : va_G} {cl : List vw_C} {cy : Nat → ClassId} {L : List Nat} {Θ : Nat → Option Nat} {h0 : Nat → Nat → Int} {eff : List (Nat × Nat × Nat)} {A : Nat → Prop} {H0 : Heap} {nL : Nat}
theorem z_ald {env env' : List zIV} {ov ov' : List zOV} {kk sy : Nat} {K : zKD} {q : zIV} {v : zAV} {σ : List Int} {h : Nat → Nat → Int} {H : Heap} (hr : zald kds env ov kk sy K q = some (env', ov', v)) (hK : kds[kk]? = some K) (gE : zge σ env) (gV : zgv Θ h σ ov) (gH : zH η kds D cl cy L Θ h H) (hs : sy < σ.length) (h1 : 0 ≤ σ.getD sy 0) (h2 : Θ (σ.getD sy 0).toNat = some kk)
    {i : Int} (hi : q.1 ≤ i ∧ i ≤ q.2) (hq0 : 0 ≤ q.1) (hqn : q.2 < (K.2.2.1 : Int)) :
    ∃ τ : List Int, zge (σ ++ τ) env' ∧ zgv Θ h (σ ++ τ) ov' ∧ zga Θ (σ ++ τ) v ∧ zev (σ ++ τ) v = h (σ.getD sy 0).toNat i.toNat ∧ v.1 = (zty K i.toNat).1 := by
  unfold zald at hr
  split at hr
  · rename_i e
    have ei : i = q.1 := by omega
    subst ei
    obtain ⟨τ, g1, g2, g3, g4, K', g5, g6, g7⟩ := z_rd hr gE gV gH hs h1 h2
    cases hK.symm.trans g5
    exact ⟨τ, g1, g2, g3, g4, g7⟩
  · split at hr
    · rename_i r hz
      cases hr
      obtain ⟨e1, e2, e3⟩ := z_elm hz (j := i.toNat) (by omega) (by omega)
      obtain ⟨b1, b2, b3⟩ := zH_in gH h2 hK (j := i.toNat) (by omega)
      have ev : zev (σ ++ [h (σ.getD sy 0).toNat i.toNat]) (r.1, env.length, 0) = h (σ.getD sy 0).toNat i.toNat := by
        unfold zev
        simp only
        rw [z_gn gE]; simp
      refine ⟨[h (σ.getD sy 0).toNat i.toNat], z_ge gE (by simp only; omega) (by simp only; omega), z_gv gV, ⟨z_len gE, ?_⟩, ev, e1.symm⟩
      rw [ev, ← e1]
      exact b1
    · cases hr
/-- an element is written: what is known of the others of this kind in the range goes -/
def zwra (ov : List zOV) (kk sy : Nat) (q : zIV) (v : zAV) : List zOV :=
  if q.1 = q.2 then zwr ov kk sy q.1.toNat v else ov.filter (fun o => !(decide (o.1.1 = kk) && decide (q.1.toNat ≤ o.2.1) && decide (o.2.1 ≤ q.2.toNat)))
theorem z_wra {ov : List zOV} {kk sy : Nat} {q : zIV} {v : zAV} {σ : List Int} {h : Nat → Nat → Int} {i : Int} (gV : zgv Θ h σ ov) (hv : zga Θ σ v) (hs : sy < σ.length) (h1 : 0 ≤ σ.getD sy 0) (h2 : Θ (σ.getD sy 0).toNat = some kk) (hi : q.1 ≤ i ∧ i ≤ q.2) (hq0 : 0 ≤ q.1) : zgv Θ (zup h (σ.getD sy 0).toNat i.toNat (zev σ v)) σ (zwra ov kk sy q v) := by
  unfold zwra
  split
  · have ei : i = q.1 := by omega
    subst ei
    exact z_wr gV hv hs h1 h2
  · intro o ho
    obtain ⟨ho, hne⟩ := List.mem_filter.mp ho
    obtain ⟨g1, g2, g3, g4, g5⟩ := gV o ho
    refine ⟨g1, g2, g3, g4, ?_⟩
    rw [zup_ne]
    · exact g5
    · rintro ⟨e1, e2⟩
      rw [e1, h2] at g4
      cases g4
      rw [e2] at hne
      have t : (decide (o.1.1 = o.1.1) && decide (q.1.toNat ≤ i.toNat) && decide (i.toNat ≤ q.2.toNat)) = true := by
        simp only [Bool.and_eq_true, decide_eq_true_eq]
        exact ⟨⟨by simp, by omega⟩, by omega⟩
      rw [t] at hne
      cases hne
/-- a value fits all slots from lo to lo + n -/
def zfall (env : List zIV) (K : zKD) (v : zAV) : Nat → Nat → Bool
  | lo, 0 => zfits env (zty K lo) v
  | lo, n + 1 => zfits env (zty K lo) v && zfall env K v (lo + 1) n
def zfalm (env : List zIV) (K : zKD) (v : zAV) (lo hi : Nat) : Bool := if K.2.2.2.length = 1 then zfits env (zty K 0) v else zfall env K v lo (hi - lo)
theorem z_fall {env : List zIV} {K : zKD} {v : zAV} : ∀ {n lo : Nat}, zfall env K v lo n = true → ∀ j, lo ≤ j → j ≤ lo + n → zfits env (zty K j) v = true := by
  intro n
  induction n with
  | zero =>
    intro lo h j h1 h2
    have : j = lo := by omega
    subst this
    exact h
  | succ n ih =>
    intro lo h j h1 h2
    unfold zfall at h
    rw [Bool.and_eq_true] at h
    by_cases ej : j = lo
    · subst ej
      exact h.1
    · exact ih h.2 j (by omega) (by omega)
theorem z_falm {env : List zIV} {K : zKD} {v : zAV} {lo hi j : Nat} (h : zfalm env K v lo hi = true) (h1 : lo ≤ j) (h2 : j ≤ hi) : zfits env (zty K j) v = true := by
  unfold zfalm at h
  split at h
  · rename_i e
    have : zty K j = zty K 0 := by
      unfold zty
      rw [e, Nat.mod_one, Nat.mod_one]
    rw [this]
    exact h
  · exact z_fall h j h1 (by omega)
theorem z_vin {i : Int32} {n : Nat} (h1 : 0 ≤ i.toInt) (h2 : i.toInt < (n : Int)) : vp_in i n ∧ i.toNatClampNeg = i.toInt.toNat := by
  refine ⟨fun q => ?_, rfl⟩
  rcases q with q | q
  · have := Int32.lt_iff_toInt_lt.mp q
    rw [show (0 : Int32).toInt = 0 from rfl] at this
    omega
  · rw [show i.toNatClampNeg = i.toInt.toNat from rfl] at q
    omega
variable {p : Program} {l : Launch} {e : Env} {R : Room} {s : State} {m : MethodId} {args : Array Value} {below : List Frame} {meth : Method} {c : Code} {Q : State → Prop}
variable {cc : ByteArray} {σA : List Int} {pc : Nat} {as : zAS} {tys : List (ClassId × FieldType)}
/-- an array's element comes on the stack: the index b, the array a -/
theorem zgo_ald {kk : Nat} {a b v : zAV} {st : List zAV} {env' : List zIV} {ov' : List zOV} {K : zKD} {q : zIV} (hs : as.2.2.1 = b :: a :: st) (ht : a.1 = kk + 2) (hbt : b.1 = 0) (hn : znn as.1 a = true) (hKd : kds[kk]? = some K) (hKf : K.1 ≤ 2) (hq : ziv as.1 b = some q) (hq0 : 0 ≤ q.1) (hqn : q.2 < (K.2.2.1 : Int)) (hr : zald kds as.1 as.2.2.2.1 kk a.2.1 K q = some (env', ov', v))
    (hw : ∀ (i : Int32) (ad : Nat) (g : Nat → Int) (H : Heap) (locs : List Loc) (ls : Array Slot) (rest : List Value) (ws : va_W) (q0 : Nat), va_P D cl ws H → ws[q0]? = some (ad, zE η cy K g) → vp_in i K.2.2.1 → i.toNatClampNeg = i.toInt.toNat → (zty K i.toInt.toNat).1 = v.1 →
      W p l e R s m args below meth c H locs 0 0 Q (F0 m (pc + 1) ls (zdec η v.1 (g i.toInt.toNat) :: rest)) → W p l e R s m args below meth c H locs 0 0 Q (F0 m pc ls (.int i :: .ref ad :: rest)))
    (k' : zGo η kds D cl cy L Θ h0 eff A H0 nL p l e R s m args below meth c Q σA (pc + 1) (env', as.2.1, v :: st, ov', as.2.2.2.2)) : zGo η kds D cl cy L Θ h0 eff A H0 nL p l e R s m args below meth c Q σA pc as := by
  intro τ h H locs ls g
  obtain ⟨gE, gL, hl, gS, gV, gR, gH, gF, gX⟩ := g
  rw [hs] at gS ⊢
  have gb := gS b List.mem_cons_self
  have ga := gS a (List.mem_cons_of_mem _ List.mem_cons_self)
  obtain ⟨ea, na, Θa⟩ := z_nnr hn gE ga ht
  obtain ⟨i, ei, hi⟩ := z_ci gb hbt
  have bi := z_iv gE hq
  rw [← hi] at bi
  obtain ⟨τ', gE', gV', gv, ev, hvt⟩ := z_ald hr hKd gE gV gH ga.1 na Θa bi hq0 hqn
  obtain ⟨q0, hq0'⟩ := zH_get gH Θa hKd hKf
  obtain ⟨v1, v2⟩ := z_vin (i := i) (n := K.2.2.1) (by omega) (by omega)
  rw [List.map_cons, List.map_cons, ea, ei]
  refine hw i _ _ H locs ls _ _ q0 gH.1 hq0' v1 v2 hvt.symm ?_
  have gst : ∀ q ∈ st, zga Θ (σA ++ τ) q := fun q hq => gS q (List.mem_cons_of_mem _ (List.mem_cons_of_mem _ hq))
  have w := k' (τ ++ τ') h H locs ls ⟨by rw [← List.append_assoc]; exact gE', fun q hq => by rw [← List.append_assoc]; exact z_ga (gL q hq), by rw [← List.append_assoc]; exact z_lv gL hl, ?_, by rw [← List.append_assoc]; exact gV', by rw [← List.append_assoc]; exact z_gr gR, gH, gF, gX⟩
  · simp only [List.map_cons, ← List.append_assoc] at w
    rw [z_st gst] at w
    have evv : zvo η (σA ++ τ ++ τ') v = zdec η v.1 (h ((σA ++ τ).getD a.2.1 0).toNat i.toInt.toNat) := by unfold zvo; rw [ev]
    rw [evv] at w
    exact w
  · intro b' hb'
    rw [← List.append_assoc]
    rcases List.mem_cons.mp hb' with rfl | hb'
    · exact gv
    · exact z_ga (gst b' hb')
/-- a number is written into an array; the machine may make it narrower: y behind x -/
theorem zgo_ast (hnd : L.Nodup) (hLA : ∀ a ∈ L, A a) {kk : Nat} {a b v : zAV} {st : List zAV} {K : zKD} {q : zIV} (hs : as.2.2.1 = v :: b :: a :: st) (ht : a.1 = kk + 2) (hbt : b.1 = 0) (hvt : v.1 = 0) (hn : znn as.1 a = true) (hKd : kds[kk]? = some K) (hKf : K.1 = 1) (hq : ziv as.1 b = some q) (hq0 : 0 ≤ q.1) (hqn : q.2 < (K.2.2.1 : Int))
    (hfit : zfalm as.1 K v q.1.toNat q.2.toNat = true) (hef : zinE eff kk q.1.toNat q.2.toNat = true)
    (hw : ∀ (i x : Int32) (ad : Nat) (f : Nat → Int32) (H : Heap) (locs : List Loc) (ls : Array Slot) (rest : List Value) (ws : va_W) (q0 : Nat), va_P D cl ws H → va_D A ws → va_S A H0 H locs → ws[q0]? = some (ad, .inl (cy K.2.1, K.2.2.1, .inl f)) → vp_in i K.2.2.1 → i.toNatClampNeg = i.toInt.toNat → (zty K i.toInt.toNat).2.1 ≤ x.toInt → x.toInt ≤ (zty K i.toInt.toNat).2.2 →
      (∀ (H1 : Heap) (locs1 : List Loc), va_P D cl (ws.set q0 (ad, .inl (cy K.2.1, K.2.2.1, .inl (upd f i.toInt.toNat x)))) H1 → va_S A H0 H1 locs1 → W p l e R s m args below meth c H1 locs1 0 0 Q (F0 m (pc + 1) ls rest)) → W p l e R s m args below meth c H locs 0 0 Q (F0 m pc ls (.int x :: .int i :: .ref ad :: rest)))
    (k' : zGo η kds D cl cy L Θ h0 eff A H0 nL p l e R s m args below meth c Q σA (pc + 1) (as.1, as.2.1, st, zwra as.2.2.2.1 kk a.2.1 q v, as.2.2.2.2)) : zGo η kds D cl cy L Θ h0 eff A H0 nL p l e R s m args below meth c Q σA pc as := by
  intro τ h H locs ls g
  obtain ⟨gE, gL, hl, gS, gV, gR, gH, gF, gX⟩ := g
  rw [hs] at gS ⊢
  have gv := gS v List.mem_cons_self
  have gb := gS b (List.mem_cons_of_mem _ List.mem_cons_self)
  have ga := gS a (List.mem_cons_of_mem _ (List.mem_cons_of_mem _ List.mem_cons_self))
  obtain ⟨ea, na, Θa⟩ := z_nnr hn gE ga ht
  obtain ⟨i, ei, hi⟩ := z_ci gb hbt
  obtain ⟨x, ex, hx⟩ := z_ci gv hvt
  have bi := z_iv gE hq
  rw [← hi] at bi
  obtain ⟨q0, hq0'⟩ := zH_get gH Θa hKd (by omega)
  have hq1 := hq0'
  rw [zE_i hKf] at hq1
  obtain ⟨v1, v2⟩ := z_vin (i := i) (n := K.2.2.1) (by omega) (by omega)
  have hD : va_D A ([] ++ va_pl L (zF η kds cy Θ h)) := z_D hnd hLA
  obtain ⟨t1, b1, b2, b3⟩ := z_fits (z_falm hfit (j := i.toInt.toNat) (by omega) (by omega)) gE gv
  rw [List.map_cons, List.map_cons, List.map_cons, ea, ei, ex]
  refine hw i x _ _ H locs ls _ _ q0 gH.1 hD gF hq1 v1 v2 (by rw [hx]; exact b2) (by rw [hx]; exact b3) (fun H1 locs1 hP1 hS1 => ?_)
  have gH1 : zH η kds D cl cy L Θ (zup h ((σA ++ τ).getD a.2.1 0).toNat i.toInt.toNat (zev (σA ++ τ) v)) H1 := by
    refine zH_put gH hD Θa hKd (by omega) (by omega) ⟨b1, b2, b3⟩ hq0' ?_
    rw [zE_i hKf]
    have ef : (fun j => Int32.ofInt (zup h ((σA ++ τ).getD a.2.1 0).toNat i.toInt.toNat (zev (σA ++ τ) v) ((σA ++ τ).getD a.2.1 0).toNat j)) = upd (fun j => Int32.ofInt (h ((σA ++ τ).getD a.2.1 0).toNat j)) i.toInt.toNat x := by
      funext j
      unfold upd
      split
      · rename_i e
        subst e
        rw [zup_at, ← hx, z_ofi]
      · rename_i e
        rw [zup_ne (fun q => e q.2)]
    rw [ef]
    exact hP1
  refine k' τ _ H1 locs1 ls ⟨gE, gL, hl, fun q hq => gS q (List.mem_cons_of_mem _ (List.mem_cons_of_mem _ (List.mem_cons_of_mem _ hq))), z_wra gV gv ga.1 na Θa bi hq0, gR, gH1, hS1, fun b' kb j hb hj => ?_⟩
  rw [zup_ne]
  · exact gX b' kb j hb hj
  · rintro ⟨rfl, rfl⟩
    cases Θa.symm.trans hb
    rw [z_iE hef (by omega) (by omega)] at hj
    cases hj
end ZAR
end
section
variable {η : zRn}
/-! one abstract state says no more than another: by a map of the other's symbols -/
abbrev zSB : Type := List (Nat × Nat × Int)
def zsb : zSB → Nat → Option (Nat × Int)
  | [], _ => none
  | (j, q) :: r, i => if j = i then some q else zsb r i
def zsg (σ : List Int) (sub : zSB) (j : Nat) : Int := match zsb sub j with
  | some q => σ.getD q.1 0 + q.2
  | none => 0
def zmap (σ : List Int) (sub : zSB) (n : Nat) : List Int := (List.range n).map (zsg σ sub)
theorem z_mapl {σ : List Int} {sub : zSB} {n : Nat} : (zmap σ sub n).length = n := by simp [zmap]
theorem z_mapg {σ : List Int} {sub : zSB} {n j : Nat} (h : j < n) : (zmap σ sub n).getD j 0 = zsg σ sub j := by
  unfold zmap
  simp [List.getD_eq_getElem?_getD, List.getElem?_range h]
/-- the bounds of the symbols -/
def zcke (env : List zIV) (sub : zSB) : Nat → List zIV → Bool
  | _, [] => true
  | j, q' :: r => (match zsb sub j with
      | some x => (match ziv env (0, x.1, x.2) with
        | some q => decide (q'.1 ≤ q.1) && decide (q.2 ≤ q'.2)
        | none => false)
      | none => false) && zcke env sub (j + 1) r
theorem z_cke {env : List zIV} {sub : zSB} {σ : List Int} (gE : zge σ env) : ∀ {env' : List zIV} {j : Nat}, zcke env sub j env' = true → ∀ (i : Nat) (q : zIV), env'[i]? = some q → (∃ x, zsb sub (j + i) = some x ∧ x.1 < σ.length) ∧ q.1 ≤ zsg σ sub (j + i) ∧ zsg σ sub (j + i) ≤ q.2 := by
  intro env'
  induction env' with
  | nil => intro j _ i q h; simp at h
  | cons q' r ih =>
    intro j h i q hi
    unfold zcke at h
    rw [Bool.and_eq_true] at h
    cases i with
    | zero =>
      simp at hi
      subst hi
      have h1 := h.1
      split at h1
      · rename_i x hx
        split at h1
        · rename_i z hz
          simp only [Bool.and_eq_true, decide_eq_true_eq] at h1
          have b := z_iv gE hz
          have bl := z_ivl gE hz
          rw [Nat.add_zero]
          refine ⟨⟨x, hx, bl⟩, ?_⟩
          unfold zsg
          rw [hx]
          unfold zev at b
          simp only at b ⊢
          omega
        · cases h1
      · cases h1
    | succ i =>
      have := ih h.2 i q (by simpa using hi)
      rw [show j + (i + 1) = j + 1 + i by omega]
      exact this
/-- a target's value is this value -/
def zav (env : List zIV) (sub : zSB) (a' a : zAV) : Bool := match zcast env a'.1 a with
  | some w => decide (zsb sub a'.2.1 = some (w.2.1, w.2.2 - a'.2.2))
  | none => false
theorem z_av {Θ : Nat → Option Nat} {env : List zIV} {sub : zSB} {σ : List Int} {a' a : zAV} {n : Nat} (gE : zge σ env) (ga : zga Θ σ a) (hn : ∀ j x, zsb sub j = some x → j < n) (h : zav env sub a' a = true) : zga Θ (zmap σ sub n) a' ∧ zvo η (zmap σ sub n) a' = zvo η σ a ∧ zev (zmap σ sub n) a' = zev σ a := by
  unfold zav at h
  split at h
  · rename_i w hw
    simp only [decide_eq_true_eq] at h
    obtain ⟨e1, e2, e3, e4⟩ := z_cast hw gE ga
    have hj := hn _ _ h
    have ev : zev (zmap σ sub n) a' = zev σ w := by
      unfold zev
      rw [z_mapg hj]
      unfold zsg
      rw [h]
      simp only
      omega
    refine ⟨⟨by rw [z_mapl]; exact hj, ?_⟩, ?_, by rw [ev, e3]⟩
    · rw [ev, ← e1]; exact e2.2
    · rw [← e4]
      unfold zvo
      rw [ev, e1]
  · cases h
def zckl (env : List zIV) (sub : zSB) (loc : List (Nat × zAV)) : List (Nat × zAV) → Bool
  | [] => true
  | (i, a') :: r => (match zfind loc i with
      | some a => zav env sub a' a
      | none => false) && zckl env sub loc r
def zcks (env : List zIV) (sub : zSB) : List zAV → List zAV → Bool
  | [], [] => true
  | a' :: r', a :: r => zav env sub a' a && zcks env sub r' r
  | _, _ => false
def zckv (env : List zIV) (sub : zSB) (ov : List zOV) : List zOV → Bool
  | [] => true
  | ((k, j), sl, v') :: r => (match zsb sub j with
      | some x => decide (x.2 = 0) && (match zlook ov k x.1 sl with
        | some v => zav env sub v' v
        | none => false)
      | none => false) && zckv env sub ov r
/-- a lower bound of one symbol by another -/
def zrlN (env : List zIV) (rel : List (Nat × Nat × Int)) : Nat → Nat → Int → Nat → Int → Bool
  | n, i, d, b, d2 => (decide (i = b) && decide (d2 ≤ d)) || (match n with
      | 0 => false
      | n + 1 => rel.any (fun r => decide (r.1 = i) && zrlN env rel n r.2.1 (r.2.2 + d) b d2)) ||
    (match ziv env (0, i, d), ziv env (0, b, d2) with
      | some q, some r => decide (r.2 ≤ q.1)
      | _, _ => false)
def zrle (env : List zIV) (rel : List (Nat × Nat × Int)) (i : Nat) (d : Int) (b : Nat) (d2 : Int) : Bool := zrlN env rel 6 i d b d2
theorem z_rlN {env : List zIV} {rel : List (Nat × Nat × Int)} {σ : List Int} (gE : zge σ env) (gR : zgr σ rel) : ∀ {n i b : Nat} {d d2 : Int}, zrlN env rel n i d b d2 = true → σ.getD b 0 + d2 ≤ σ.getD i 0 + d := by
  intro n
  induction n with
  | zero =>
    intro i b d d2 h
    unfold zrlN at h
    rw [Bool.or_eq_true, Bool.or_eq_true] at h
    rcases h with (h | h) | h
    · simp only [Bool.and_eq_true, decide_eq_true_eq] at h
      obtain ⟨rfl, h⟩ := h
      omega
    · cases h
    · split at h
      · rename_i q r hq hr
        simp only [decide_eq_true_eq] at h
        have b1 := z_iv gE hq
        have b2 := z_iv gE hr
        unfold zev at b1 b2
        simp only at b1 b2
        omega
      · cases h
  | succ n ih =>
    intro i b d d2 h
    unfold zrlN at h
    rw [Bool.or_eq_true, Bool.or_eq_true] at h
    rcases h with (h | h) | h
    · simp only [Bool.and_eq_true, decide_eq_true_eq] at h
      obtain ⟨rfl, h⟩ := h
      omega
    · simp only at h
      rw [List.any_eq_true] at h
      obtain ⟨r, hr, h⟩ := h
      simp only [Bool.and_eq_true, decide_eq_true_eq] at h
      obtain ⟨rfl, h⟩ := h
      have h1 := ih h
      have h2 := (gR r hr).2.2
      omega
    · split at h
      · rename_i q r hq hr
        simp only [decide_eq_true_eq] at h
        have b1 := z_iv gE hq
        have b2 := z_iv gE hr
        unfold zev at b1 b2
        simp only at b1 b2
        omega
      · cases h
theorem z_rle {env : List zIV} {rel : List (Nat × Nat × Int)} {σ : List Int} {i b : Nat} {d d2 : Int} (gE : zge σ env) (gR : zgr σ rel) (h : zrle env rel i d b d2 = true) : σ.getD b 0 + d2 ≤ σ.getD i 0 + d := z_rlN gE gR h
def zckr (env : List zIV) (sub : zSB) (rel : List (Nat × Nat × Int)) : List (Nat × Nat × Int) → Bool
  | [] => true
  | (i', b', r) :: t => (match zsb sub i', zsb sub b' with
      | some x, some y => zrle env rel x.1 x.2 y.1 (y.2 + r)
      | _, _ => false) && zckr env sub rel t
def zckp (sub : zSB) : Nat → Bool
  | 0 => true
  | n + 1 => decide (zsb sub n = some (n, 0)) && zckp sub n
def zckn (n : Nat) : zSB → Bool
  | [] => true
  | (j, _) :: r => decide (j < n) && zckn n r
theorem z_ckn {n : Nat} {sub : zSB} (h : zckn n sub = true) : ∀ j x, zsb sub j = some x → j < n := by
  induction sub with
  | nil => intro j x h; cases h
  | cons q r ih =>
    obtain ⟨k, y⟩ := q
    unfold zckn at h
    simp only [Bool.and_eq_true, decide_eq_true_eq] at h
    intro j x hx
    unfold zsb at hx
    split at hx
    · rename_i e
      subst e
      exact h.1
    · exact ih h.2 j x hx
theorem z_ckp {sub : zSB} : ∀ {n : Nat}, zckp sub n = true → ∀ j, j < n → zsb sub j = some (j, 0) := by
  intro n
  induction n with
  | zero => intro _ j h; omega
  | succ n ih =>
    intro h j hj
    unfold zckp at h
    simp only [Bool.and_eq_true, decide_eq_true_eq] at h
    by_cases e : j = n
    · subst e; exact h.1
    · exact ih h.2 j (by omega)
/-- all of it -/
def zmt (n0 : Nat) (as tg : zAS) (sub : zSB) : Bool :=
  zckn tg.1.length sub && zckp sub n0 && zcke as.1 sub 0 tg.1 && zckl as.1 sub as.2.1 tg.2.1 && zcks as.1 sub tg.2.2.1 as.2.2.1 && zckv as.1 sub as.2.2.2.1 tg.2.2.2.1 && zckr as.1 sub as.2.2.2.2 tg.2.2.2.2
section ZMT
variable {kds : List zKD} {D : va_G} {cl : List vw_C} {cy : Nat → ClassId} {L : List Nat} {Θ : Nat → Option Nat} {h0 : Nat → Nat → Int} {eff : List (Nat × Nat × Nat)} {A : Nat → Prop} {H0 : Heap} {nL : Nat}
theorem z_ckl {env : List zIV} {sub : zSB} {σ : List Int} {n : Nat} {loc : List (Nat × zAV)} (gE : zge σ env) (gL : ∀ q ∈ loc, zga Θ σ q.2) (hn : ∀ j x, zsb sub j = some x → j < n) : ∀ {loc' : List (Nat × zAV)}, zckl env sub loc loc' = true → ∀ q ∈ loc', ∃ a, zfind loc q.1 = some a ∧ zga Θ (zmap σ sub n) q.2 ∧ zvo η (zmap σ sub n) q.2 = zvo η σ a := by
  intro loc'
  induction loc' with
  | nil => intro _ q hq; cases hq
  | cons q' r ih =>
    intro h q hq
    obtain ⟨i, a'⟩ := q'
    unfold zckl at h
    rw [Bool.and_eq_true] at h
    rcases List.mem_cons.mp hq with rfl | hq
    · have h1 := h.1
      split at h1
      · rename_i a ha
        obtain ⟨e1, e2, -⟩ := z_av gE (gL _ (z_find ha)) hn h1
        exact ⟨a, ha, e1, e2⟩
      · cases h1
    · exact ih h.2 q hq
theorem z_cks {env : List zIV} {sub : zSB} {σ : List Int} {n : Nat} (gE : zge σ env) (hn : ∀ j x, zsb sub j = some x → j < n) : ∀ {st' st : List zAV}, (∀ a ∈ st, zga Θ σ a) → zcks env sub st' st = true → (∀ a ∈ st', zga Θ (zmap σ sub n) a) ∧ st'.map (zvo η (zmap σ sub n)) = st.map (zvo η σ) := by
  intro st'
  induction st' with
  | nil =>
    intro st g h
    cases st with
    | nil => exact ⟨fun _ h => (by cases h), rfl⟩
    | cons a r => cases h
  | cons a' r' ih =>
    intro st g h
    cases st with
    | nil => cases h
    | cons a r =>
      unfold zcks at h
      rw [Bool.and_eq_true] at h
      obtain ⟨e1, e2, -⟩ := z_av gE (g a List.mem_cons_self) hn h.1
      obtain ⟨f1, f2⟩ := ih (fun b hb => g b (List.mem_cons_of_mem _ hb)) h.2
      refine ⟨fun b hb => ?_, by rw [List.map_cons, List.map_cons, e2, f2]⟩
      rcases List.mem_cons.mp hb with rfl | hb
      · exact e1
      · exact f1 b hb
theorem z_ckv {env : List zIV} {sub : zSB} {σ : List Int} {n : Nat} {ov : List zOV} {h : Nat → Nat → Int} (gE : zge σ env) (gV : zgv Θ h σ ov) (hn : ∀ j x, zsb sub j = some x → j < n) : ∀ {ov' : List zOV}, zckv env sub ov ov' = true → zgv Θ h (zmap σ sub n) ov' := by
  intro ov'
  induction ov' with
  | nil => intro _ o ho; cases ho
  | cons q r ih =>
    intro hc o ho
    obtain ⟨⟨k, j⟩, sl, v'⟩ := q
    unfold zckv at hc
    rw [Bool.and_eq_true] at hc
    rcases List.mem_cons.mp ho with rfl | ho
    · have h1 := hc.1
      split at h1
      · rename_i x hx
        rw [Bool.and_eq_true] at h1
        have h2 := h1.2
        split at h2
        · rename_i v hv
          obtain ⟨g1, g2, g3, g4, g5⟩ := gV _ (z_look hv)
          simp only at g1 g2 g3 g4 g5
          obtain ⟨e1, -, e3⟩ := z_av (η := ((id, id) : zRn)) gE g2 hn h2
          have hj := hn _ _ hx
          have es : (zmap σ sub n).getD j 0 = σ.getD x.1 0 := by
            rw [z_mapg hj]
            unfold zsg
            rw [hx]
            have := of_decide_eq_true h1.1
            simp only
            omega
          refine ⟨by rw [z_mapl]; exact hj, e1, ?_⟩
          simp only
          rw [es, e3]
          exact ⟨g3, g4, g5⟩
        · cases h2
      · cases h1
    · exact ih hc.2 o ho
theorem z_ckr {env : List zIV} {sub : zSB} {σ : List Int} {n : Nat} {rel : List (Nat × Nat × Int)} (gE : zge σ env) (gR : zgr σ rel) (hn : ∀ j x, zsb sub j = some x → j < n) : ∀ {rel' : List (Nat × Nat × Int)}, zckr env sub rel rel' = true → zgr (zmap σ sub n) rel' := by
  intro rel'
  induction rel' with
  | nil => intro _ o ho; cases ho
  | cons q r ih =>
    intro hc o ho
    obtain ⟨i', b', t⟩ := q
    unfold zckr at hc
    rw [Bool.and_eq_true] at hc
    rcases List.mem_cons.mp ho with rfl | ho
    · have h1 := hc.1
      split at h1
      · rename_i x y hx hy
        have := z_rle gE gR h1
        refine ⟨by rw [z_mapl]; exact hn _ _ hx, by rw [z_mapl]; exact hn _ _ hy, ?_⟩
        simp only
        rw [z_mapg (hn _ _ hx), z_mapg (hn _ _ hy)]
        unfold zsg
        rw [hx, hy]
        simp only
        omega
      · cases h1
    · exact ih hc.2 o ho
theorem z_pre {σ0 ρ : List Int} {sub : zSB} {n : Nat} (hp : ∀ j, j < σ0.length → zsb sub j = some (j, 0)) (hn : σ0.length ≤ n) : ∃ ρ', zmap (σ0 ++ ρ) sub n = σ0 ++ ρ' := by
  refine ⟨(zmap (σ0 ++ ρ) sub n).drop σ0.length, ?_⟩
  apply List.ext_getElem?
  intro i
  by_cases hi : i < σ0.length
  · rw [List.getElem?_append_left hi]
    unfold zmap
    rw [List.getElem?_map, List.getElem?_range (by omega)]
    simp only [Option.map_some]
    unfold zsg
    rw [hp i hi]
    simp only
    rw [z_gd hi, List.getD_eq_getElem?_getD, List.getElem?_eq_getElem hi]
    simp
  · rw [List.getElem?_append_right (by omega), List.getElem?_drop]
    congr 1
    omega
/-- a state of which the one says the truth, of it the other does too -/
theorem z_mt {σ0 ρ : List Int} {as tg : zAS} {sub : zSB} {h : Nat → Nat → Int} {H : Heap} {locs : List Loc} {ls : Array Slot} (hm : zmt σ0.length as tg sub = true) (hlen : σ0.length ≤ tg.1.length) (g : zG η kds D cl cy L Θ h0 eff A H0 nL as (σ0 ++ ρ) h H locs ls) :
    (∃ ρ', zmap (σ0 ++ ρ) sub tg.1.length = σ0 ++ ρ') ∧ zG η kds D cl cy L Θ h0 eff A H0 nL tg (zmap (σ0 ++ ρ) sub tg.1.length) h H locs ls ∧ tg.2.2.1.map (zvo η (zmap (σ0 ++ ρ) sub tg.1.length)) = as.2.2.1.map (zvo η (σ0 ++ ρ)) := by
  unfold zmt at hm
  simp only [Bool.and_eq_true] at hm
  obtain ⟨⟨⟨⟨⟨⟨m1, m2⟩, m3⟩, m4⟩, m5⟩, m6⟩, m7⟩ := hm
  obtain ⟨gE, gL, hl, gS, gV, gR, gH, gF, gX⟩ := g
  have hn := z_ckn m1
  have hE : zge (zmap (σ0 ++ ρ) sub tg.1.length) tg.1 := by
    refine ⟨z_mapl, fun i q hi => ?_⟩
    have := z_cke gE m3 i q hi
    rw [Nat.zero_add] at this
    rw [z_mapg (List.getElem?_eq_some_iff.mp hi).1]
    exact this.2
  obtain ⟨s1, s2⟩ := z_cks (η := η) (Θ := Θ) gE hn gS m5
  have kl := z_ckl (η := η) (Θ := Θ) gE gL hn m4
  refine ⟨z_pre (z_ckp m2) hlen, ⟨hE, fun q hq => (kl q hq).choose_spec.2.1, ⟨hl.1, hl.2.1, fun q hq => ?_⟩, s1, z_ckv gE gV hn m6, z_ckr gE gR hn m7, gH, gF, gX⟩, s2⟩
  obtain ⟨q', hq', rfl⟩ := List.mem_map.mp hq
  obtain ⟨a, ha, -, e⟩ := kl q' hq'
  simp only
  rw [e]
  exact z_at hl ha
end ZMT
end
section
variable {η : zRn}
/-! ranks: a number that falls from one marked place to the next -/
abbrev zRK : Type := Int × List (Nat × Int)
def zsum (σ : List Int) : List (Nat × Int) → Int
  | [] => 0
  | q :: r => q.2 * σ.getD q.1 0 + zsum σ r
def zrk (σ : List Int) (k : zRK) : Int := k.1 + zsum σ k.2
/-- the least value by the bounds -/
def zlow (env : List zIV) : List (Nat × Int) → Option Int
  | [] => some 0
  | q :: r => match env[q.1]?, zlow env r with
    | some b, some x => some ((if 0 ≤ q.2 then q.2 * b.1 else q.2 * b.2) + x)
    | _, _ => none
theorem z_low {env : List zIV} {σ : List Int} (gE : zge σ env) : ∀ {l : List (Nat × Int)} {x : Int}, zlow env l = some x → x ≤ zsum σ l := by
  intro l
  induction l with
  | nil => intro x h; cases h; exact Int.le_refl _
  | cons q r ih =>
    intro x h
    unfold zlow at h
    split at h
    · rename_i b y hb hy
      cases h
      have e1 := ih hy
      have e2 := gE.2 _ _ hb
      unfold zsum
      split
      · rename_i h0
        have := Int.mul_le_mul_of_nonneg_left e2.1 h0
        omega
      · have := Int.mul_le_mul_of_nonpos_left (show q.2 ≤ 0 by omega) e2.2
        omega
    · cases h
/-- terms of one symbol come together -/
def zadd1 (i : Nat) (w : Int) : List (Nat × Int) → List (Nat × Int)
  | [] => [(i, w)]
  | q :: r => if q.1 = i then (i, q.2 + w) :: r else q :: zadd1 i w r
theorem z_add1 {σ : List Int} {i : Nat} {w : Int} : ∀ {l : List (Nat × Int)}, zsum σ (zadd1 i w l) = w * σ.getD i 0 + zsum σ l := by
  intro l
  induction l with
  | nil => rfl
  | cons q r ih =>
    unfold zadd1
    split
    · rename_i e
      subst e
      simp only [zsum]
      rw [Int.add_mul]
      omega
    · simp only [zsum]
      rw [ih]
      omega
def zmrg : List (Nat × Int) → List (Nat × Int)
  | [] => []
  | q :: r => zadd1 q.1 q.2 (zmrg r)
theorem z_mrg {σ : List Int} : ∀ {l : List (Nat × Int)}, zsum σ (zmrg l) = zsum σ l := by
  intro l
  induction l with
  | nil => rfl
  | cons q r ih =>
    unfold zmrg
    rw [z_add1, ih]
    rfl
/-- symbols with a lower bound by another are put down to it -/
def zfr (rel : List (Nat × Nat × Int)) (i : Nat) : Option (Nat × Int) := match rel with
  | [] => none
  | (j, b, r) :: t => if j = i then some (b, r) else zfr t i
theorem z_fr {rel : List (Nat × Nat × Int)} {i b : Nat} {r : Int} (h : zfr rel i = some (b, r)) : (i, b, r) ∈ rel := by
  induction rel with
  | nil => cases h
  | cons q t ih =>
    obtain ⟨j, b', r'⟩ := q
    unfold zfr at h
    split at h
    · rename_i e
      cases h
      subst e
      exact List.mem_cons_self
    · exact List.mem_cons_of_mem _ (ih h)
def zrl (rel : List (Nat × Nat × Int)) : List (Nat × Int) → Int × List (Nat × Int)
  | [] => (0, [])
  | q :: t => match zfr rel q.1 with
    | some x => if 0 ≤ q.2 then ((zrl rel t).1 + q.2 * x.2, (x.1, q.2) :: (zrl rel t).2) else ((zrl rel t).1, q :: (zrl rel t).2)
    | none => ((zrl rel t).1, q :: (zrl rel t).2)
theorem z_rl {rel : List (Nat × Nat × Int)} {σ : List Int} (gR : zgr σ rel) : ∀ {l : List (Nat × Int)}, (zrl rel l).1 + zsum σ (zrl rel l).2 ≤ zsum σ l := by
  intro l
  induction l with
  | nil => exact Int.le_refl _
  | cons q t ih =>
    unfold zrl
    split
    · rename_i x hx
      split
      · rename_i h0
        have := (gR _ (z_fr hx)).2.2
        simp only at this
        have e := Int.mul_le_mul_of_nonneg_left this h0
        rw [Int.mul_add] at e
        simp only [zsum]
        omega
      · simp only [zsum]
        omega
    · simp only [zsum]
      omega
def zrn (rel : List (Nat × Nat × Int)) : Nat → List (Nat × Int) → Int × List (Nat × Int)
  | 0, l => (0, l)
  | n + 1, l => ((zrl rel l).1 + (zrn rel n (zrl rel l).2).1, (zrn rel n (zrl rel l).2).2)
theorem z_rn {rel : List (Nat × Nat × Int)} {σ : List Int} (gR : zgr σ rel) : ∀ {n : Nat} {l : List (Nat × Int)}, (zrn rel n l).1 + zsum σ (zrn rel n l).2 ≤ zsum σ l := by
  intro n
  induction n with
  | zero => intro l; simp [zrn]
  | succ n ih =>
    intro l
    have h1 := z_rl gR (l := l)
    have h2 := ih (l := (zrl rel l).2)
    simp only [zrn]
    omega
/-- a target's rank in this state's symbols, with its sign turned -/
def zrs (sub : zSB) : List (Nat × Int) → Option (Int × List (Nat × Int))
  | [] => some (0, [])
  | q :: t => match zsb sub q.1, zrs sub t with
    | some x, some y => some (y.1 - q.2 * x.2, (x.1, -q.2) :: y.2)
    | _, _ => none
theorem z_rs {σ : List Int} {sub : zSB} {n : Nat} (hn : ∀ j x, zsb sub j = some x → j < n) : ∀ {l : List (Nat × Int)} {y : Int × List (Nat × Int)}, zrs sub l = some y → y.1 + zsum σ y.2 = - zsum (zmap σ sub n) l := by
  intro l
  induction l with
  | nil => intro y h; cases h; rfl
  | cons q t ih =>
    intro y h
    unfold zrs at h
    split at h
    · rename_i x z hx hz
      cases h
      have := ih hz
      simp only [zsum]
      rw [z_mapg (hn _ _ hx)]
      unfold zsg
      rw [hx]
      simp only
      rw [Int.mul_add, Int.neg_mul]
      omega
    · cases h
theorem z_sapp {σ : List Int} : ∀ {l r : List (Nat × Int)}, zsum σ (l ++ r) = zsum σ l + zsum σ r := by
  intro l r
  induction l with
  | nil => simp [zsum]
  | cons q t ih => simp only [List.cons_append, zsum]; rw [ih]; omega
/-- the target's rank is smaller -/
def zlessN (env : List zIV) (rel : List (Nat × Nat × Int)) (c : Int) (l : List (Nat × Int)) (n : Nat) : Bool := match zlow env (zmrg (zrn rel n l).2) with
  | some x => decide (1 ≤ c + (zrn rel n l).1 + x)
  | none => false
def zless (env : List zIV) (rel : List (Nat × Nat × Int)) (rk rk' : zRK) (sub : zSB) : Bool := match zrs sub rk'.2 with
  | some y => [0, 1, 2, 3, 4, 5].any (zlessN env rel (rk.1 - rk'.1 + y.1) (zmrg (rk.2 ++ y.2)))
  | none => false
theorem z_less {env : List zIV} {rel : List (Nat × Nat × Int)} {rk rk' : zRK} {sub : zSB} {σ : List Int} {n : Nat} (gE : zge σ env) (gR : zgr σ rel) (hn : ∀ j x, zsb sub j = some x → j < n) (h : zless env rel rk rk' sub = true) : zrk (zmap σ sub n) rk' < zrk σ rk := by
  unfold zless at h
  split at h
  · rename_i y hy
    rw [List.any_eq_true] at h
    obtain ⟨k, -, h⟩ := h
    unfold zlessN at h
    split at h
    · rename_i x hx
      simp only [decide_eq_true_eq] at h
      have e1 := z_rs (σ := σ) hn hy
      have e2 := z_low gE hx
      rw [z_mrg] at e2
      have e3 := z_rn gR (n := k) (l := zmrg (rk.2 ++ y.2))
      rw [z_mrg, z_sapp] at e3
      unfold zrk
      omega
    · cases h
  · cases h
/-- a rank is not below nought -/
def zpos (env : List zIV) (rk : zRK) : Bool := match zlow env rk.2 with
  | some x => decide (0 ≤ rk.1 + x)
  | none => false
theorem z_pos {env : List zIV} {rk : zRK} {σ : List Int} (gE : zge σ env) (h : zpos env rk = true) : 0 ≤ zrk σ rk := by
  unfold zpos at h
  split at h
  · rename_i x hx
    simp only [decide_eq_true_eq] at h
    have := z_low gE hx
    unfold zrk
    omega
  · cases h
/-- a rank in the first symbols alone is the same later -/
theorem z_rkapp {σ τ : List Int} {rk : zRK} (h : ∀ q ∈ rk.2, q.1 < σ.length) : zrk (σ ++ τ) rk = zrk σ rk := by
  unfold zrk
  congr 1
  obtain ⟨x, l⟩ := rk
  simp only at *
  induction l with
  | nil => rfl
  | cons q t ih =>
    simp only [zsum]
    rw [z_gd (h q List.mem_cons_self), ih (fun r hr => h r (List.mem_cons_of_mem _ hr))]
end
