/-! The checker: abstract states. A number is a symbol and an offset; a symbol has bounds; a reference is a number too (-1: null); a cell of the heap has a kind. -/
abbrev zAV : Type := Nat × Nat × Int
abbrev zIV : Type := Int × Int
abbrev zOV : Type := (Nat × Nat) × Nat × zAV
abbrev zAS : Type := List zIV × List (Nat × zAV) × List zAV × List zOV × List (Nat × Nat × Int)
abbrev zKD : Type := Nat × Nat × Nat × List (Nat × Int × Int)
/-- names of cells: from a name to its address and back -/
abbrev zRn : Type := (Nat → Nat) × (Nat → Nat)
def zrf (η : zRn) (x : Int) : Option Nat := if x < 0 then none else some (η.1 x.toNat)
def zdec (η : zRn) (t : Nat) (x : Int) : Value := match t with
  | 0 => .int (Int32.ofInt x)
  | 1 => .long (Int64.ofInt x)
  | _ + 2 => va_rf (zrf η x)
def zok (Θ : Nat → Option Nat) (t : Nat) (x : Int) : Prop := match t with
  | 0 => -2147483648 ≤ x ∧ x ≤ 2147483647
  | 1 => -9223372036854775808 ≤ x ∧ x ≤ 9223372036854775807
  | k + 2 => x = -1 ∨ (0 ≤ x ∧ Θ x.toNat = some k)
/-- the type of a kind's slot: tag, least, most -/
def zty (K : zKD) (j : Nat) : Nat × Int × Int := K.2.2.2.getD (j % K.2.2.2.length) (0, 0, -1)
def zE (η : zRn) (cy : Nat → ClassId) (K : zKD) (g : Nat → Int) : va_E := match K.1 with
  | 0 => .inr (K.2.1, (List.range K.2.2.1).map (fun j => zdec η (zty K j).1 (g j)))
  | 1 => .inl (cy K.2.1, K.2.2.1, .inl (fun j => Int32.ofInt (g j)))
  | _ => .inl (cy K.2.1, K.2.2.1, .inr (.inr (.inr (.inr (fun j => zrf η (g j))))))
/-- the heap holds the cells of Θ, with the contents h -/
def zf (η : zRn) (kds : List zKD) (cy : Nat → ClassId) (Θ : Nat → Option Nat) (h : Nat → Nat → Int) (a : Nat) : va_E := zE η cy (kds.getD ((Θ a).getD 0) (0, 0, 0, [])) (h a)
/-- the cell at an address -/
def zF (η : zRn) (kds : List zKD) (cy : Nat → ClassId) (Θ : Nat → Option Nat) (h : Nat → Nat → Int) (q : Nat) : va_E := zf η kds cy Θ h (η.2 q)
def zH (η : zRn) (kds : List zKD) (D : va_G) (cl : List vw_C) (cy : Nat → ClassId) (L : List Nat) (Θ : Nat → Option Nat) (h : Nat → Nat → Int) (H : Heap) : Prop :=
  va_P D cl ([] ++ va_pl L (zF η kds cy Θ h)) H ∧ (∀ q ∈ L, η.1 (η.2 q) = q) ∧ ∀ a k, Θ a = some k → ∃ K, kds[k]? = some K ∧ (K.1 ≤ 2 → η.1 a ∈ L ∧ η.2 (η.1 a) = a) ∧ ∀ j, j < K.2.2.1 → zok Θ (zty K j).1 (h a j) ∧ (zty K j).2.1 ≤ h a j ∧ h a j ≤ (zty K j).2.2
/-- slots from a place to a place of a kind are among those that may change -/
def zinE (eff : List (Nat × Nat × Nat)) (k lo hi : Nat) : Bool := eff.any (fun e => decide (e.1 = k) && decide (e.2.1 ≤ lo) && decide (hi ≤ e.2.2))
def zev (σ : List Int) (a : zAV) : Int := σ.getD a.2.1 0 + a.2.2
def zvo (η : zRn) (σ : List Int) (a : zAV) : Value := zdec η a.1 (zev σ a)
def zga (Θ : Nat → Option Nat) (σ : List Int) (a : zAV) : Prop := a.2.1 < σ.length ∧ zok Θ a.1 (zev σ a)
def zge (σ : List Int) (env : List zIV) : Prop := σ.length = env.length ∧ ∀ i q, env[i]? = some q → q.1 ≤ σ.getD i 0 ∧ σ.getD i 0 ≤ q.2
def zgv (Θ : Nat → Option Nat) (h : Nat → Nat → Int) (σ : List Int) (ov : List zOV) : Prop :=
  ∀ o ∈ ov, o.1.2 < σ.length ∧ zga Θ σ o.2.2 ∧ 0 ≤ σ.getD o.1.2 0 ∧ Θ (σ.getD o.1.2 0).toNat = some o.1.1 ∧ h (σ.getD o.1.2 0).toNat o.2.1 = zev σ o.2.2
def zgr (σ : List Int) (rel : List (Nat × Nat × Int)) : Prop := ∀ r ∈ rel, r.1 < σ.length ∧ r.2.1 < σ.length ∧ σ.getD r.2.1 0 + r.2.2 ≤ σ.getD r.1 0
/-- the abstract state says the truth of this state -/
def zG (η : zRn) (kds : List zKD) (D : va_G) (cl : List vw_C) (cy : Nat → ClassId) (L : List Nat) (Θ : Nat → Option Nat) (h0 : Nat → Nat → Int) (eff : List (Nat × Nat × Nat)) (A : Nat → Prop) (H0 : Heap) (nL : Nat) (as : zAS) (σ : List Int) (h : Nat → Nat → Int) (H : Heap) (locs : List Loc) (ls : Array Slot) : Prop :=
  zge σ as.1 ∧ (∀ q ∈ as.2.1, zga Θ σ q.2) ∧ lv_has ls nL (as.2.1.map fun q => (q.1, zvo η σ q.2)) ∧ (∀ a ∈ as.2.2.1, zga Θ σ a) ∧ zgv Θ h σ as.2.2.2.1 ∧ zgr σ as.2.2.2.2 ∧ zH η kds D cl cy L Θ h H ∧ va_S A H0 H locs ∧ (∀ a k j, Θ a = some k → zinE eff k j j = false → h a j = h0 a j)
variable {η : zRn}
/-! lists -/
theorem z_gd {σ τ : List Int} {i : Nat} (h : i < σ.length) : (σ ++ τ).getD i 0 = σ.getD i 0 := by
  simp [List.getD_eq_getElem?_getD, List.getElem?_append_left h]
theorem z_gl {σ : List Int} {x : Int} : (σ ++ [x]).getD σ.length 0 = x := by
  simp [List.getD_eq_getElem?_getD]
theorem z_ev {σ τ : List Int} {a : zAV} (h : a.2.1 < σ.length) : zev (σ ++ τ) a = zev σ a := by
  unfold zev; rw [z_gd h]
theorem z_vo {σ τ : List Int} {a : zAV} (h : a.2.1 < σ.length) : zvo η (σ ++ τ) a = zvo η σ a := by
  unfold zvo; rw [z_ev h]
theorem z_ga {Θ : Nat → Option Nat} {σ τ : List Int} {a : zAV} (h : zga Θ σ a) : zga Θ (σ ++ τ) a :=
  ⟨by rw [List.length_append]; have := h.1; omega, by rw [z_ev h.1]; exact h.2⟩
theorem z_gv {Θ : Nat → Option Nat} {h : Nat → Nat → Int} {σ τ : List Int} {ov : List zOV} (g : zgv Θ h σ ov) : zgv Θ h (σ ++ τ) ov := by
  intro o ho
  obtain ⟨h1, h2, h3, h4, h5⟩ := g o ho
  refine ⟨by rw [List.length_append]; omega, z_ga h2, ?_⟩
  rw [z_gd h1, z_ev h2.1]
  exact ⟨h3, h4, h5⟩
theorem z_gr {σ τ : List Int} {rel : List (Nat × Nat × Int)} (g : zgr σ rel) : zgr (σ ++ τ) rel := by
  intro r hr
  obtain ⟨h1, h2, h3⟩ := g r hr
  refine ⟨by rw [List.length_append]; omega, by rw [List.length_append]; omega, ?_⟩
  rw [z_gd h1, z_gd h2]
  exact h3
theorem z_ge {σ : List Int} {env : List zIV} {x : Int} {q : zIV} (g : zge σ env) (h1 : q.1 ≤ x) (h2 : x ≤ q.2) : zge (σ ++ [x]) (env ++ [q]) := by
  refine ⟨by simp [g.1], fun i r hr => ?_⟩
  rcases Nat.lt_or_ge i env.length with hi | hi
  · rw [List.getElem?_append_left hi] at hr
    rw [z_gd (by rw [g.1]; exact hi)]
    exact g.2 i r hr
  · rw [List.getElem?_append_right hi] at hr
    have e : i = env.length := by
      have := (List.getElem?_eq_some_iff.mp hr).1
      simp at this; omega
    subst e
    simp at hr
    subst hr
    rw [show env.length = σ.length from g.1.symm, z_gl]
    exact ⟨h1, h2⟩
theorem z_lv {nL : Nat} {ls : Array Slot} {σ τ : List Int} {Θ : Nat → Option Nat} {loc : List (Nat × zAV)} (g : ∀ q ∈ loc, zga Θ σ q.2) (h : lv_has ls nL (loc.map fun q => (q.1, zvo η σ q.2))) : lv_has ls nL (loc.map fun q => (q.1, zvo η (σ ++ τ) q.2)) := by
  have e : (loc.map fun q => (q.1, zvo η (σ ++ τ) q.2)) = loc.map fun q => (q.1, zvo η σ q.2) := List.map_congr_left fun q hq => by rw [z_vo (g q hq).1]
  rw [e]; exact h
theorem z_st {σ τ : List Int} {Θ : Nat → Option Nat} {st : List zAV} (g : ∀ a ∈ st, zga Θ σ a) : st.map (zvo η (σ ++ τ)) = st.map (zvo η σ) := List.map_congr_left fun a ha => z_vo (g a ha).1
theorem z_len {σ : List Int} {env : List zIV} {x : Int} (g : zge σ env) : env.length < (σ ++ [x]).length := by simp [g.1]
theorem z_gn {σ : List Int} {env : List zIV} {x : Int} (g : zge σ env) : (σ ++ [x]).getD env.length 0 = x := by rw [← g.1]; exact z_gl
/-- a symbol's bounds, narrowed -/
theorem z_set {σ : List Int} {env : List zIV} {i : Nat} {q : zIV} (g : zge σ env) (h1 : q.1 ≤ σ.getD i 0) (h2 : σ.getD i 0 ≤ q.2) : zge σ (env.set i q) := by
  refine ⟨by simp [g.1], fun j r hr => ?_⟩
  by_cases e : i = j
  · subst e
    rw [List.getElem?_set] at hr
    simp at hr
    obtain ⟨_, rfl⟩ := hr
    exact ⟨h1, h2⟩
  · rw [List.getElem?_set_ne e] at hr
    exact g.2 j r hr
/-- bounds of an abstract value -/
def ziv (env : List zIV) (a : zAV) : Option zIV := match env[a.2.1]? with
  | some q => some (q.1 + a.2.2, q.2 + a.2.2)
  | none => none
theorem z_iv {σ : List Int} {env : List zIV} {a : zAV} {q : zIV} (g : zge σ env) (h : ziv env a = some q) : q.1 ≤ zev σ a ∧ zev σ a ≤ q.2 := by
  unfold ziv at h
  split at h
  · rename_i r hr
    cases h
    have := g.2 _ _ hr
    unfold zev
    simp only
    omega
  · cases h
theorem z_ivl {σ : List Int} {env : List zIV} {a : zAV} {q : zIV} (g : zge σ env) (h : ziv env a = some q) : a.2.1 < σ.length := by
  unfold ziv at h
  split at h
  · rename_i r hr
    rw [g.1]
    exact (List.getElem?_eq_some_iff.mp hr).1
  · cases h
/-! numbers -/
theorem z_toi {x : Int} (h1 : -2147483648 ≤ x) (h2 : x ≤ 2147483647) : (Int32.ofInt x).toInt = x := by
  rw [Int32.toInt_ofInt]
  exact Int.bmod_eq_of_le (by simp only [Int32.size]; omega) (by simp only [Int32.size]; omega)
theorem z_ofi (x : Int32) : Int32.ofInt x.toInt = x := by
  simp
theorem z_lo (x : Int32) : -2147483648 ≤ x.toInt := Int32.le_toInt x
theorem z_hi (x : Int32) : x.toInt ≤ 2147483647 := by
  have := Int32.toInt_lt x
  omega
theorem z_lo64 (x : Int64) : -9223372036854775808 ≤ x.toInt := Int64.le_toInt x
theorem z_hi64 (x : Int64) : x.toInt ≤ 9223372036854775807 := by
  have := Int64.toInt_lt x
  omega
theorem z_ofi64 (x : Int64) : Int64.ofInt x.toInt = x := by
  simp
