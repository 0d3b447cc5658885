variable {η : zRn}
/-! ranks: a number that falls from one marked place to the next -/
abbrev zRK : Type := Int × List (Nat × Int)
def zsum (σ : List Int) : List (Nat × Int) → Int
  | [] => 0
  | q :: r => q.2 * σ.getD q.1 0 + zsum σ r
def zrk (σ : List Int) (k : zRK) : Int := k.1 + zsum σ k.2
/-- the least value by the bounds -/
def zlow (env : List zIV) : List (Nat × Int) → Option Int
  | [] => some 0
  | q :: r => match env[q.1]?, zlow env r with
    | some b, some x => some ((if 0 ≤ q.2 then q.2 * b.1 else q.2 * b.2) + x)
    | _, _ => none
theorem z_low {env : List zIV} {σ : List Int} (gE : zge σ env) : ∀ {l : List (Nat × Int)} {x : Int}, zlow env l = some x → x ≤ zsum σ l := by
  intro l
  induction l with
  | nil => intro x h; cases h; exact Int.le_refl _
  | cons q r ih =>
    intro x h
    unfold zlow at h
    split at h
    · rename_i b y hb hy
      cases h
      have e1 := ih hy
      have e2 := gE.2 _ _ hb
      unfold zsum
      split
      · rename_i h0
        have := Int.mul_le_mul_of_nonneg_left e2.1 h0
        omega
      · have := Int.mul_le_mul_of_nonpos_left (show q.2 ≤ 0 by omega) e2.2
        omega
    · cases h
/-- terms of one symbol come together -/
def zadd1 (i : Nat) (w : Int) : List (Nat × Int) → List (Nat × Int)
  | [] => [(i, w)]
  | q :: r => if q.1 = i then (i, q.2 + w) :: r else q :: zadd1 i w r
theorem z_add1 {σ : List Int} {i : Nat} {w : Int} : ∀ {l : List (Nat × Int)}, zsum σ (zadd1 i w l) = w * σ.getD i 0 + zsum σ l := by
  intro l
  induction l with
  | nil => rfl
  | cons q r ih =>
    unfold zadd1
    split
    · rename_i e
      subst e
      simp only [zsum]
      rw [Int.add_mul]
      omega
    · simp only [zsum]
      rw [ih]
      omega
def zmrg : List (Nat × Int) → List (Nat × Int)
  | [] => []
  | q :: r => zadd1 q.1 q.2 (zmrg r)
theorem z_mrg {σ : List Int} : ∀ {l : List (Nat × Int)}, zsum σ (zmrg l) = zsum σ l := by
  intro l
  induction l with
  | nil => rfl
  | cons q r ih =>
    unfold zmrg
    rw [z_add1, ih]
    rfl
/-- symbols with a lower bound by another are put down to it -/
def zfr (rel : List (Nat × Nat × Int)) (i : Nat) : Option (Nat × Int) := match rel with
  | [] => none
  | (j, b, r) :: t => if j = i then some (b, r) else zfr t i
theorem z_fr {rel : List (Nat × Nat × Int)} {i b : Nat} {r : Int} (h : zfr rel i = some (b, r)) : (i, b, r) ∈ rel := by
  induction rel with
  | nil => cases h
  | cons q t ih =>
    obtain ⟨j, b', r'⟩ := q
    unfold zfr at h
    split at h
    · rename_i e
      cases h
      subst e
      exact List.mem_cons_self
    · exact List.mem_cons_of_mem _ (ih h)
def zrl (rel : List (Nat × Nat × Int)) : List (Nat × Int) → Int × List (Nat × Int)
  | [] => (0, [])
  | q :: t => match zfr rel q.1 with
    | some x => if 0 ≤ q.2 then ((zrl rel t).1 + q.2 * x.2, (x.1, q.2) :: (zrl rel t).2) else ((zrl rel t).1, q :: (zrl rel t).2)
    | none => ((zrl rel t).1, q :: (zrl rel t).2)
theorem z_rl {rel : List (Nat × Nat × Int)} {σ : List Int} (gR : zgr σ rel) : ∀ {l : List (Nat × Int)}, (zrl rel l).1 + zsum σ (zrl rel l).2 ≤ zsum σ l := by
  intro l
  induction l with
  | nil => exact Int.le_refl _
  | cons q t ih =>
    unfold zrl
    split
    · rename_i x hx
      split
      · rename_i h0
        have := (gR _ (z_fr hx)).2.2
        simp only at this
        have e := Int.mul_le_mul_of_nonneg_left this h0
        rw [Int.mul_add] at e
        simp only [zsum]
        omega
      · simp only [zsum]
        omega
    · simp only [zsum]
      omega
def zrn (rel : List (Nat × Nat × Int)) : Nat → List (Nat × Int) → Int × List (Nat × Int)
  | 0, l => (0, l)
  | n + 1, l => ((zrl rel l).1 + (zrn rel n (zrl rel l).2).1, (zrn rel n (zrl rel l).2).2)
theorem z_rn {rel : List (Nat × Nat × Int)} {σ : List Int} (gR : zgr σ rel) : ∀ {n : Nat} {l : List (Nat × Int)}, (zrn rel n l).1 + zsum σ (zrn rel n l).2 ≤ zsum σ l := by
  intro n
  induction n with
  | zero => intro l; simp [zrn]
  | succ n ih =>
    intro l
    have h1 := z_rl gR (l := l)
    have h2 := ih (l := (zrl rel l).2)
    simp only [zrn]
    omega
/-- a target's rank in this state's symbols, with its sign turned -/
def zrs (sub : zSB) : List (Nat × Int) → Option (Int × List (Nat × Int))
  | [] => some (0, [])
  | q :: t => match zsb sub q.1, zrs sub t with
    | some x, some y => some (y.1 - q.2 * x.2, (x.1, -q.2) :: y.2)
    | _, _ => none
theorem z_rs {σ : List Int} {sub : zSB} {n : Nat} (hn : ∀ j x, zsb sub j = some x → j < n) : ∀ {l : List (Nat × Int)} {y : Int × List (Nat × Int)}, zrs sub l = some y → y.1 + zsum σ y.2 = - zsum (zmap σ sub n) l := by
  intro l
  induction l with
  | nil => intro y h; cases h; rfl
  | cons q t ih =>
    intro y h
    unfold zrs at h
    split at h
    · rename_i x z hx hz
      cases h
      have := ih hz
      simp only [zsum]
      rw [z_mapg (hn _ _ hx)]
      unfold zsg
      rw [hx]
      simp only
      rw [Int.mul_add, Int.neg_mul]
      omega
    · cases h
theorem z_sapp {σ : List Int} : ∀ {l r : List (Nat × Int)}, zsum σ (l ++ r) = zsum σ l + zsum σ r := by
  intro l r
  induction l with
  | nil => simp [zsum]
  | cons q t ih => simp only [List.cons_append, zsum]; rw [ih]; omega
/-- the target's rank is smaller -/
def zlessN (env : List zIV) (rel : List (Nat × Nat × Int)) (c : Int) (l : List (Nat × Int)) (n : Nat) : Bool := match zlow env (zmrg (zrn rel n l).2) with
  | some x => decide (1 ≤ c + (zrn rel n l).1 + x)
  | none => false
def zless (env : List zIV) (rel : List (Nat × Nat × Int)) (rk rk' : zRK) (sub : zSB) : Bool := match zrs sub rk'.2 with
  | some y => [0, 1, 2, 3, 4, 5].any (zlessN env rel (rk.1 - rk'.1 + y.1) (zmrg (rk.2 ++ y.2)))
  | none => false
theorem z_less {env : List zIV} {rel : List (Nat × Nat × Int)} {rk rk' : zRK} {sub : zSB} {σ : List Int} {n : Nat} (gE : zge σ env) (gR : zgr σ rel) (hn : ∀ j x, zsb sub j = some x → j < n) (h : zless env rel rk rk' sub = true) : zrk (zmap σ sub n) rk' < zrk σ rk := by
  unfold zless at h
  split at h
  · rename_i y hy
    rw [List.any_eq_true] at h
    obtain ⟨k, -, h⟩ := h
    unfold zlessN at h
    split at h
    · rename_i x hx
      simp only [decide_eq_true_eq] at h
      have e1 := z_rs (σ := σ) hn hy
      have e2 := z_low gE hx
      rw [z_mrg] at e2
      have e3 := z_rn gR (n := k) (l := zmrg (rk.2 ++ y.2))
      rw [z_mrg, z_sapp] at e3
      unfold zrk
      omega
    · cases h
  · cases h
/-- a rank is not below nought -/
def zpos (env : List zIV) (rk : zRK) : Bool := match zlow env rk.2 with
  | some x => decide (0 ≤ rk.1 + x)
  | none => false
theorem z_pos {env : List zIV} {rk : zRK} {σ : List Int} (gE : zge σ env) (h : zpos env rk = true) : 0 ≤ zrk σ rk := by
  unfold zpos at h
  split at h
  · rename_i x hx
    simp only [decide_eq_true_eq] at h
    have := z_low gE hx
    unfold zrk
    omega
  · cases h
/-- a rank in the first symbols alone is the same later -/
theorem z_rkapp {σ τ : List Int} {rk : zRK} (h : ∀ q ∈ rk.2, q.1 < σ.length) : zrk (σ ++ τ) rk = zrk σ rk := by
  unfold zrk
  congr 1
  obtain ⟨x, l⟩ := rk
  simp only at *
  induction l with
  | nil => rfl
  | cons q t ih =>
    simp only [zsum]
    rw [z_gd (h q List.mem_cons_self), ih (fun r hr => h r (List.mem_cons_of_mem _ hr))]
