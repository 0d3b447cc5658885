variable {η : zRn}
/-! walks as functions: what a stretch of code does to the numbers, or none where a guard falls (an index, a sum too large ..) -/
abbrev yX : Type := yL → List yV → yH → Option (Int × yH)
abbrev yO : Type := Option (Int × yH)
def xg (c : Prop) [Decidable c] (k : yO) : yO := if c then k else none
def xb (r : yO) (k : Int → yH → yO) : yO := match r with
  | some (v, h) => k v h
  | none => none
def xh (h : yH) (k : yH → yO) : yO := k h
theorem xg_pos {c : Prop} [Decidable c] {k : yO} (h : c) : xg c k = k := if_pos h
theorem xb_some {v : Int} {h : yH} {k : Int → yH → yO} : xb (some (v, h)) k = k v h := rfl
theorem xg_s {c : Prop} [Decidable c] {k : yO} {r : Int × yH} (h : xg c k = some r) : c ∧ k = some r := by
  unfold xg at h
  split at h
  · rename_i hc
    exact ⟨hc, h⟩
  · cases h
theorem xb_s {r : yO} {k : Int → yH → yO} {q : Int × yH} (h : xb r k = some q) : ∃ v h', r = some (v, h') ∧ k v h' = some q := by
  unfold xb at h
  split at h
  · rename_i v h'
    exact ⟨v, h', rfl, h⟩
  · cases h
theorem xt_s {b : Bool} {k : yO} {r : Int × yH} (h : cond b k none = some r) : b = true ∧ k = some r := by
  cases b with
  | true => exact ⟨rfl, h⟩
  | false => cases h
theorem xt1 {p q : Nat} {k : yO} {r : Int × yH} (h : cond (Nat.beq p q) k none = some r) : p = q ∧ k = some r := ⟨Nat.eq_of_beq_eq_true (xt_s h).1, (xt_s h).2⟩
theorem xt2 {p q p2 q2 : Nat} {k : yO} {r : Int × yH} (h : cond (Nat.beq p q && Nat.beq p2 q2) k none = some r) : (p = q ∧ p2 = q2) ∧ k = some r := by
  obtain ⟨h1, h2⟩ := xt_s h
  rw [Bool.and_eq_true] at h1
  exact ⟨⟨Nat.eq_of_beq_eq_true h1.1, Nat.eq_of_beq_eq_true h1.2⟩, h2⟩
theorem xt3 {p q p2 q2 p3 q3 : Nat} {k : yO} {r : Int × yH} (h : cond (Nat.beq p q && (Nat.beq p2 q2 && Nat.beq p3 q3)) k none = some r) : (p = q ∧ p2 = q2 ∧ p3 = q3) ∧ k = some r := by
  obtain ⟨h1, h2⟩ := xt_s h
  rw [Bool.and_eq_true, Bool.and_eq_true] at h1
  exact ⟨⟨Nat.eq_of_beq_eq_true h1.1, Nat.eq_of_beq_eq_true h1.2.1, Nat.eq_of_beq_eq_true h1.2.2⟩, h2⟩
theorem xtn {p q : Nat} {k : yO} {r : Int × yH} (h : cond (Nat.beq p q) none k = some r) : ¬ p = q ∧ k = some r := by
  cases hb : Nat.beq p q with
  | true => rw [hb] at h; cases h
  | false =>
    rw [hb] at h
    exact ⟨fun e => (by rw [e, Nat.beq_refl] at hb; cases hb), h⟩
theorem xtn2 {p q p2 q2 : Nat} {k : yO} {r : Int × yH} (h : cond (Nat.beq p q || Nat.beq p2 q2) none k = some r) : (¬ p = q ∧ ¬ p2 = q2) ∧ k = some r := by
  cases hb : Nat.beq p q with
  | true => rw [hb] at h; cases h
  | false =>
    cases hb2 : Nat.beq p2 q2 with
    | true => rw [hb, hb2] at h; cases h
    | false =>
      rw [hb, hb2] at h
      exact ⟨⟨fun e => (by rw [e, Nat.beq_refl] at hb; cases hb), fun e => (by rw [e, Nat.beq_refl] at hb2; cases hb2)⟩, h⟩
def xw (Qr : yQt) (t : Nat) (X : yX) : yP := fun loc st h => ∃ v h', X loc st h = some (v, h') ∧ Qr (t, v) h'
theorem xif {c : Prop} [Decidable c] {a b : yO} {r : Int × yH} {A B : Prop} (e : (if c then a else b) = some r) (h1 : a = some r → A) (h2 : b = some r → B) : if c then A else B := by
  split at e
  · rename_i hc
    rw [if_pos hc]
    exact h1 e
  · rename_i hc
    rw [if_neg hc]
    exact h2 e
def xCst (u : Nat) (n : Int) (K : yX) : yX := fun loc st h => K loc ((u, n) :: st) h
theorem x_cst {u : Nat} {n : Int} {Qr : yQt} {t : Nat} {K : yX} : ∀ loc st h, xw Qr t (xCst u n K) loc st h → yCst u n (xw Qr t K) loc st h := fun _ _ _ h => h
def xLd (i u : Nat) (K : yX) : yX := fun loc st h => match yfind loc i with
  | some a => cond (Nat.beq a.1 u) (K loc (a :: st) h) none
  | none => none
theorem x_ld {i u : Nat} {Qr : yQt} {t : Nat} {K : yX} : ∀ loc st h, xw Qr t (xLd i u K) loc st h → yLd i u (xw Qr t K) loc st h := by
  intro loc st h ⟨v, h2, e, q⟩
  unfold xLd at e
  unfold yLd
  split at e
  · rename_i a ha
    rw [ha]
    obtain ⟨e1, e⟩ := xt1 e
    exact ⟨e1, v, h2, e, q⟩
  · cases e
def xInc (i : Nat) (n : Int) (K : yX) : yX := fun loc st h => match yfind loc i with
  | some a => cond (Nat.beq a.1 0) (xg (-2147483648 ≤ a.2 + n ∧ a.2 + n ≤ 2147483647) (K (yput loc i (0, a.2 + n)) st h)) none
  | none => none
theorem x_inc {i : Nat} {n : Int} {Qr : yQt} {t : Nat} {K : yX} : ∀ loc st h, xw Qr t (xInc i n K) loc st h → yInc i n (xw Qr t K) loc st h := by
  intro loc st h ⟨v, h2, e, q⟩
  unfold xInc at e
  unfold yInc
  split at e
  · rename_i a ha
    rw [ha]
    obtain ⟨e1, e⟩ := xt1 e
    obtain ⟨e2, e⟩ := xg_s e
    exact ⟨e1, e2, v, h2, e, q⟩
  · cases e
def xSt (i u : Nat) (K : yX) : yX := fun loc st h => match st with
  | a :: st => cond (Nat.beq a.1 u) (K (yput loc i a) st h) none
  | _ => none
theorem x_st {i u : Nat} {Qr : yQt} {t : Nat} {K : yX} : ∀ loc st h, xw Qr t (xSt i u K) loc st h → ySt i u (xw Qr t K) loc st h := by
  intro loc st h ⟨v, h2, e, q⟩
  unfold xSt at e
  unfold ySt
  split at e
  · rename_i a st
    obtain ⟨e1, e⟩ := xt1 e
    exact ⟨e1, v, h2, e, q⟩
  · cases e
def xSt2 (i : Nat) (K : yX) : yX := fun loc st h => match st with
  | a :: st => cond (Nat.beq a.1 1) (K (yput (ydel loc (i + 1)) i a) st h) none
  | _ => none
theorem x_st2 {i : Nat} {Qr : yQt} {t : Nat} {K : yX} : ∀ loc st h, xw Qr t (xSt2 i K) loc st h → ySt2 i (xw Qr t K) loc st h := by
  intro loc st h ⟨v, h2, e, q⟩
  unfold xSt2 at e
  unfold ySt2
  split at e
  · rename_i a st
    obtain ⟨e1, e⟩ := xt1 e
    exact ⟨e1, v, h2, e, q⟩
  · cases e
def xAdd (K : yX) : yX := fun loc st h => match st with
  | b :: a :: st => cond (Nat.beq a.1 0 && Nat.beq b.1 0) (xg (-2147483648 ≤ a.2 + b.2 ∧ a.2 + b.2 ≤ 2147483647) (K loc ((0, a.2 + b.2) :: st) h)) none
  | _ => none
theorem x_add {Qr : yQt} {t : Nat} {K : yX} : ∀ loc st h, xw Qr t (xAdd K) loc st h → yAdd (xw Qr t K) loc st h := by
  intro loc st h ⟨v, h2, e, q⟩
  unfold xAdd at e
  unfold yAdd
  split at e
  · rename_i b a st
    obtain ⟨e1, e⟩ := xt2 e
    obtain ⟨e2, e⟩ := xg_s e
    exact ⟨e1, e2, v, h2, e, q⟩
  · cases e
def xSub (K : yX) : yX := fun loc st h => match st with
  | b :: a :: st => cond (Nat.beq a.1 0 && Nat.beq b.1 0) (xg (-2147483648 ≤ a.2 - b.2 ∧ a.2 - b.2 ≤ 2147483647) (K loc ((0, a.2 - b.2) :: st) h)) none
  | _ => none
theorem x_sub {Qr : yQt} {t : Nat} {K : yX} : ∀ loc st h, xw Qr t (xSub K) loc st h → ySub (xw Qr t K) loc st h := by
  intro loc st h ⟨v, h2, e, q⟩
  unfold xSub at e
  unfold ySub
  split at e
  · rename_i b a st
    obtain ⟨e1, e⟩ := xt2 e
    obtain ⟨e2, e⟩ := xg_s e
    exact ⟨e1, e2, v, h2, e, q⟩
  · cases e
def xMul (K : yX) : yX := fun loc st h => match st with
  | b :: a :: st => cond (Nat.beq a.1 0 && Nat.beq b.1 0) (xg (-2147483648 ≤ a.2 * b.2 ∧ a.2 * b.2 ≤ 2147483647) (K loc ((0, a.2 * b.2) :: st) h)) none
  | _ => none
theorem x_mul {Qr : yQt} {t : Nat} {K : yX} : ∀ loc st h, xw Qr t (xMul K) loc st h → yMul (xw Qr t K) loc st h := by
  intro loc st h ⟨v, h2, e, q⟩
  unfold xMul at e
  unfold yMul
  split at e
  · rename_i b a st
    obtain ⟨e1, e⟩ := xt2 e
    obtain ⟨e2, e⟩ := xg_s e
    exact ⟨e1, e2, v, h2, e, q⟩
  · cases e
def xAri (op : Nat) (K : yX) : yX := fun loc st h => match st with
  | b :: a :: st => cond (Nat.beq a.1 0 && Nat.beq b.1 0) (K loc ((0, yari op a.2 b.2) :: st) h) none
  | _ => none
theorem x_ari {op : Nat} {Qr : yQt} {t : Nat} {K : yX} : ∀ loc st h, xw Qr t (xAri op K) loc st h → yAri op (xw Qr t K) loc st h := by
  intro loc st h ⟨v, h2, e, q⟩
  unfold xAri at e
  unfold yAri
  split at e
  · rename_i b a st
    obtain ⟨e1, e⟩ := xt2 e
    exact ⟨e1, v, h2, e, q⟩
  · cases e
def xUshr (K : yX) : yX := fun loc st h => match st with
  | b :: a :: st => cond (Nat.beq a.1 0 && Nat.beq b.1 0) (K loc ((0, yushr a.2 b.2) :: st) h) none
  | _ => none
theorem x_ushr {Qr : yQt} {t : Nat} {K : yX} : ∀ loc st h, xw Qr t (xUshr K) loc st h → yUshr (xw Qr t K) loc st h := by
  intro loc st h ⟨v, h2, e, q⟩
  unfold xUshr at e
  unfold yUshr
  split at e
  · rename_i b a st
    obtain ⟨e1, e⟩ := xt2 e
    exact ⟨e1, v, h2, e, q⟩
  · cases e
def xI2b (K : yX) : yX := fun loc st h => match st with
  | a :: st => cond (Nat.beq a.1 0) (K loc ((0, yi2b a.2) :: st) h) none
  | _ => none
theorem x_i2b {Qr : yQt} {t : Nat} {K : yX} : ∀ loc st h, xw Qr t (xI2b K) loc st h → yI2b (xw Qr t K) loc st h := by
  intro loc st h ⟨v, h2, e, q⟩
  unfold xI2b at e
  unfold yI2b
  split at e
  · rename_i a st
    obtain ⟨e1, e⟩ := xt1 e
    exact ⟨e1, v, h2, e, q⟩
  · cases e
def xI2l (K : yX) : yX := fun loc st h => match st with
  | a :: st => cond (Nat.beq a.1 0) (K loc ((1, a.2) :: st) h) none
  | _ => none
theorem x_i2l {Qr : yQt} {t : Nat} {K : yX} : ∀ loc st h, xw Qr t (xI2l K) loc st h → yI2l (xw Qr t K) loc st h := by
  intro loc st h ⟨v, h2, e, q⟩
  unfold xI2l at e
  unfold yI2l
  split at e
  · rename_i a st
    obtain ⟨e1, e⟩ := xt1 e
    exact ⟨e1, v, h2, e, q⟩
  · cases e
def xLor (K : yX) : yX := fun loc st h => match st with
  | b :: a :: st => cond (Nat.beq a.1 1 && Nat.beq b.1 1) (K loc ((1, ylor a.2 b.2) :: st) h) none
  | _ => none
theorem x_lor {Qr : yQt} {t : Nat} {K : yX} : ∀ loc st h, xw Qr t (xLor K) loc st h → yLor (xw Qr t K) loc st h := by
  intro loc st h ⟨v, h2, e, q⟩
  unfold xLor at e
  unfold yLor
  split at e
  · rename_i b a st
    obtain ⟨e1, e⟩ := xt2 e
    exact ⟨e1, v, h2, e, q⟩
  · cases e
def xLshl (K : yX) : yX := fun loc st h => match st with
  | b :: a :: st => cond (Nat.beq a.1 1 && Nat.beq b.1 0) (K loc ((1, ylshl a.2 b.2) :: st) h) none
  | _ => none
theorem x_lshl {Qr : yQt} {t : Nat} {K : yX} : ∀ loc st h, xw Qr t (xLshl K) loc st h → yLshl (xw Qr t K) loc st h := by
  intro loc st h ⟨v, h2, e, q⟩
  unfold xLshl at e
  unfold yLshl
  split at e
  · rename_i b a st
    obtain ⟨e1, e⟩ := xt2 e
    exact ⟨e1, v, h2, e, q⟩
  · cases e
def xDup (K : yX) : yX := fun loc st h => match st with
  | a :: st => cond (Nat.beq a.1 1) none (K loc (a :: a :: st) h)
  | _ => none
theorem x_dup {Qr : yQt} {t : Nat} {K : yX} : ∀ loc st h, xw Qr t (xDup K) loc st h → yDup (xw Qr t K) loc st h := by
  intro loc st h ⟨v, h2, e, q⟩
  unfold xDup at e
  unfold yDup
  split at e
  · rename_i a st
    obtain ⟨e1, e⟩ := xtn e
    exact ⟨e1, v, h2, e, q⟩
  · cases e
def xDup2 (K : yX) : yX := fun loc st h => match st with
  | a :: b :: st => cond (Nat.beq a.1 1 || Nat.beq b.1 1) none (K loc (a :: b :: a :: b :: st) h)
  | _ => none
theorem x_dup2 {Qr : yQt} {t : Nat} {K : yX} : ∀ loc st h, xw Qr t (xDup2 K) loc st h → yDup2 (xw Qr t K) loc st h := by
  intro loc st h ⟨v, h2, e, q⟩
  unfold xDup2 at e
  unfold yDup2
  split at e
  · rename_i a b st
    obtain ⟨e1, e⟩ := xtn2 e
    exact ⟨e1, v, h2, e, q⟩
  · cases e
def xPop (K : yX) : yX := fun loc st h => match st with
  | a :: st => cond (Nat.beq a.1 1) none (K loc st h)
  | _ => none
theorem x_pop {Qr : yQt} {t : Nat} {K : yX} : ∀ loc st h, xw Qr t (xPop K) loc st h → yPop (xw Qr t K) loc st h := by
  intro loc st h ⟨v, h2, e, q⟩
  unfold xPop at e
  unfold yPop
  split at e
  · rename_i a st
    obtain ⟨e1, e⟩ := xtn e
    exact ⟨e1, v, h2, e, q⟩
  · cases e
def xPut (k j : Nat) (lo hi : Int) (K : yX) : yX := fun loc st h => match st with
  | w :: a :: st => cond (Nat.beq a.1 (k + 100002) && Nat.beq w.1 0) (xg (lo ≤ w.2 ∧ w.2 ≤ hi) (K loc st (zup h a.2.toNat j w.2))) none
  | _ => none
theorem x_put {k j : Nat} {lo hi : Int} {Qr : yQt} {t : Nat} {K : yX} : ∀ loc st h, xw Qr t (xPut k j lo hi K) loc st h → yPut k j lo hi (xw Qr t K) loc st h := by
  intro loc st h ⟨v, h2, e, q⟩
  unfold xPut at e
  unfold yPut
  split at e
  · rename_i w a st
    obtain ⟨e1, e⟩ := xt2 e
    obtain ⟨e2, e⟩ := xg_s e
    exact ⟨e1, e2, v, h2, e, q⟩
  · cases e
def xPut0 (k j u : Nat) (K : yX) : yX := fun loc st h => match st with
  | w :: a :: st => cond (Nat.beq a.1 (k + 100002) && Nat.beq w.1 u) (K loc st (zup h a.2.toNat j w.2)) none
  | _ => none
theorem x_put0 {k j u : Nat} {Qr : yQt} {t : Nat} {K : yX} : ∀ loc st h, xw Qr t (xPut0 k j u K) loc st h → yPut0 k j u (xw Qr t K) loc st h := by
  intro loc st h ⟨v, h2, e, q⟩
  unfold xPut0 at e
  unfold yPut0
  split at e
  · rename_i w a st
    obtain ⟨e1, e⟩ := xt2 e
    exact ⟨e1, v, h2, e, q⟩
  · cases e
def xLen (k : Nat) (n : Int) (K : yX) : yX := fun loc st h => match st with
  | a :: st => cond (Nat.beq a.1 (k + 100002)) (K loc ((0, n) :: st) h) none
  | _ => none
theorem x_len {k : Nat} {n : Int} {Qr : yQt} {t : Nat} {K : yX} : ∀ loc st h, xw Qr t (xLen k n K) loc st h → yLen k n (xw Qr t K) loc st h := by
  intro loc st h ⟨v, h2, e, q⟩
  unfold xLen at e
  unfold yLen
  split at e
  · rename_i a st
    obtain ⟨e1, e⟩ := xt1 e
    exact ⟨e1, v, h2, e, q⟩
  · cases e
def xGet (k j u : Nat) (K : yX) : yX := fun loc st h => match st with
  | a :: st => cond (Nat.beq a.1 (k + 100002)) (K loc ((u, h a.2.toNat j) :: st) h) none
  | _ => none
theorem x_get {k j u : Nat} {lo hi : Int} {Qr : yQt} {t : Nat} {K : yX} : ∀ loc st h, xw Qr t (xGet k j u K) loc st h → yGet k j u lo hi (xw Qr t K) loc st h := by
  intro loc st h ⟨v, h2, e, q⟩
  unfold xGet at e
  unfold yGet
  split at e
  · rename_i a st
    obtain ⟨e1, e⟩ := xt1 e
    exact ⟨e1, fun _ _ => ⟨v, h2, e, q⟩⟩
  · cases e
def xGetP (k j k2 : Nat) (K : yX) : yX := fun loc st h => match st with
  | a :: st => cond (Nat.beq a.1 (k + 100002)) (K loc ((k2 + 100002, h a.2.toNat j) :: st) h) none
  | _ => none
theorem x_getp {k j k2 : Nat} {Θ : Nat → Option Nat} {Qr : yQt} {t : Nat} {K : yX} : ∀ loc st h, xw Qr t (xGetP k j k2 K) loc st h → yGetP Θ k j k2 (xw Qr t K) loc st h := by
  intro loc st h ⟨v, h2, e, q⟩
  unfold xGetP at e
  unfold yGetP
  split at e
  · rename_i a st
    obtain ⟨e1, e⟩ := xt1 e
    exact ⟨e1, fun _ _ => ⟨v, h2, e, q⟩⟩
  · cases e
def xGetC (k j k2 : Nat) (n : Int) (K : yX) : yX := fun loc st h => match st with
  | a :: st => cond (Nat.beq a.1 (k + 100002)) (xg (h a.2.toNat j = n) (K loc ((k2 + 100002, n) :: st) h)) none
  | _ => none
theorem x_getc {k j k2 : Nat} {n : Int} {Θ : Nat → Option Nat} {Qr : yQt} {t : Nat} {K : yX} : ∀ loc st h, xw Qr t (xGetC k j k2 n K) loc st h → yGetP Θ k j k2 (xw Qr t K) loc st h := by
  intro loc st h ⟨v, h2, e, q⟩
  unfold xGetC at e
  unfold yGetP
  split at e
  · rename_i a st
    obtain ⟨e1, e⟩ := xt1 e
    obtain ⟨e2, e⟩ := xg_s e
    exact ⟨e1, fun _ _ => ⟨v, h2, by rw [e2]; exact e, q⟩⟩
  · cases e
def xGetO (k j k2 : Nat) (n : Int) (K : yX) : yX := fun loc st h => match st with
  | a :: st => cond (Nat.beq a.1 (k + 100002)) (xg (h a.2.toNat j = a.2 + n) (K loc ((k2 + 100002, a.2 + n) :: st) h)) none
  | _ => none
theorem x_geto {k j k2 : Nat} {n : Int} {Θ : Nat → Option Nat} {Qr : yQt} {t : Nat} {K : yX} : ∀ loc st h, xw Qr t (xGetO k j k2 n K) loc st h → yGetP Θ k j k2 (xw Qr t K) loc st h := by
  intro loc st h ⟨v, h2, e, q⟩
  unfold xGetO at e
  unfold yGetP
  split at e
  · rename_i a st
    obtain ⟨e1, e⟩ := xt1 e
    obtain ⟨e2, e⟩ := xg_s e
    exact ⟨e1, fun _ _ => ⟨v, h2, by rw [e2]; exact e, q⟩⟩
  · cases e
def xAldO (k n k2 : Nat) (of mu : Int) (K : yX) : yX := fun loc st h => match st with
  | i :: a :: st => cond (Nat.beq a.1 (k + 100002) && Nat.beq i.1 0) (xg (0 ≤ i.2 ∧ i.2 < (n : Int)) (xg (h a.2.toNat i.2.toNat = a.2 + of + mu * i.2) (K loc ((k2 + 100002, a.2 + of + mu * i.2) :: st) h))) none
  | _ => none
theorem x_aldo {k n k2 : Nat} {of mu : Int} {Θ : Nat → Option Nat} {Qr : yQt} {t : Nat} {K : yX} : ∀ loc st h, xw Qr t (xAldO k n k2 of mu K) loc st h → yAldq Θ k n k2 (xw Qr t K) loc st h := by
  intro loc st h ⟨v, h2, e, q⟩
  unfold xAldO at e
  unfold yAldq
  split at e
  · rename_i i a st
    obtain ⟨e1, e⟩ := xt2 e
    obtain ⟨e2, e⟩ := xg_s e
    obtain ⟨e3, e⟩ := xg_s e
    exact ⟨e1, e2, fun _ _ => ⟨v, h2, by rw [e3]; exact e, q⟩⟩
  · cases e
def xAld (k n : Nat) (K : yX) : yX := fun loc st h => match st with
  | i :: a :: st => cond (Nat.beq a.1 (k + 100002) && Nat.beq i.1 0) (xg (0 ≤ i.2 ∧ i.2 < (n : Int)) (K loc ((0, h a.2.toNat i.2.toNat) :: st) h)) none
  | _ => none
theorem x_ald {k n : Nat} {lo hi : Nat → Int} {Qr : yQt} {t : Nat} {K : yX} : ∀ loc st h, xw Qr t (xAld k n K) loc st h → yAld k n lo hi (xw Qr t K) loc st h := by
  intro loc st h ⟨v, h2, e, q⟩
  unfold xAld at e
  unfold yAld
  split at e
  · rename_i i a st
    obtain ⟨e1, e⟩ := xt2 e
    obtain ⟨e2, e⟩ := xg_s e
    exact ⟨e1, e2, fun _ _ => ⟨v, h2, e, q⟩⟩
  · cases e
def xAst (k n : Nat) (lo hi : Nat → Int) (K : yX) : yX := fun loc st h => match st with
  | w :: i :: a :: st => cond (Nat.beq a.1 (k + 100002) && (Nat.beq i.1 0 && Nat.beq w.1 0)) (xg (0 ≤ i.2 ∧ i.2 < (n : Int)) (xg (lo i.2.toNat ≤ w.2 ∧ w.2 ≤ hi i.2.toNat) (K loc st (zup h a.2.toNat i.2.toNat w.2)))) none
  | _ => none
theorem x_ast {k n : Nat} {lo hi : Nat → Int} {Qr : yQt} {t : Nat} {K : yX} : ∀ loc st h, xw Qr t (xAst k n lo hi K) loc st h → yAst k n lo hi (xw Qr t K) loc st h := by
  intro loc st h ⟨v, h2, e, q⟩
  unfold xAst at e
  unfold yAst
  split at e
  · rename_i w i a st
    obtain ⟨e1, e⟩ := xt3 e
    obtain ⟨e2, e⟩ := xg_s e
    obtain ⟨e3, e⟩ := xg_s e
    exact ⟨e1, e2, e3, v, h2, e, q⟩
  · cases e
/-- the same, where the bounds are those of all numbers -/
def xAst0 (k n : Nat) (K : yX) : yX := fun loc st h => match st with
  | w :: i :: a :: st => cond (Nat.beq a.1 (k + 100002) && (Nat.beq i.1 0 && Nat.beq w.1 0)) (xg (0 ≤ i.2 ∧ i.2 < (n : Int)) (K loc st (zup h a.2.toNat i.2.toNat w.2))) none
  | _ => none
theorem x_ast0 {k n : Nat} {Θ : Nat → Option Nat} {Qr : yQt} {t : Nat} {K : yX} : ∀ loc (st : List yV) h, (∀ a ∈ st, yok Θ a) → xw Qr t (xAst0 k n K) loc st h → yAst k n (fun _ => -2147483648) (fun _ => 2147483647) (xw Qr t K) loc st h := by
  intro loc st h hk ⟨v, h2, e, q⟩
  unfold xAst0 at e
  unfold yAst
  split at e
  · rename_i w i a st
    obtain ⟨e1, e⟩ := xt3 e
    obtain ⟨e2, e⟩ := xg_s e
    have hw := hk w List.mem_cons_self
    unfold yok at hw
    rw [if_pos (by rw [e1.2.2]; decide), e1.2.2] at hw
    exact ⟨e1, e2, hw, v, h2, e, q⟩
  · cases e
def xNn (K : yX) : yX := fun loc st h => match st with
  | a :: st => cond (Nat.ble 2 a.1 && Nat.blt a.1 100002) (xg (0 ≤ a.2) (K loc ((a.1 + 100000, a.2) :: st) h)) none
  | _ => none
theorem x_nn {Θ : Nat → Option Nat} {Qr : yQt} {t : Nat} {K : yX} : ∀ loc st h, xw Qr t (xNn K) loc st h → yNn Θ (xw Qr t K) loc st h := by
  intro loc st h ⟨v, h2, e, q⟩
  unfold xNn at e
  unfold yNn
  split at e
  · rename_i a st
    obtain ⟨e1, e⟩ := xt_s e
    obtain ⟨e2, e⟩ := xg_s e
    rw [Bool.and_eq_true] at e1
    exact ⟨⟨Nat.le_of_ble_eq_true e1.1, Nat.le_of_ble_eq_true e1.2⟩, e2, fun _ => ⟨v, h2, e, q⟩⟩
  · cases e
def xLt (K1 K2 : yX) : yX := fun loc st h => match st with
  | b :: a :: st => cond (Nat.beq a.1 0 && Nat.beq b.1 0) (if a.2 < b.2 then K1 loc st h else K2 loc st h) none
  | _ => none
theorem x_lt {Qr : yQt} {t : Nat} {K1 K2 : yX} : ∀ loc st h, xw Qr t (xLt K1 K2) loc st h → yLt (xw Qr t K1) (xw Qr t K2) loc st h := by
  intro loc st h ⟨v, h2, e, q⟩
  unfold xLt at e
  unfold yLt
  split at e
  · rename_i b a st
    obtain ⟨e1, e⟩ := xt2 e
    exact ⟨e1, xif e (fun e => ⟨v, h2, e, q⟩) (fun e => ⟨v, h2, e, q⟩)⟩
  · cases e
def xGt (K1 K2 : yX) : yX := fun loc st h => match st with
  | b :: a :: st => cond (Nat.beq a.1 0 && Nat.beq b.1 0) (if b.2 < a.2 then K1 loc st h else K2 loc st h) none
  | _ => none
theorem x_gt {Qr : yQt} {t : Nat} {K1 K2 : yX} : ∀ loc st h, xw Qr t (xGt K1 K2) loc st h → yGt (xw Qr t K1) (xw Qr t K2) loc st h := by
  intro loc st h ⟨v, h2, e, q⟩
  unfold xGt at e
  unfold yGt
  split at e
  · rename_i b a st
    obtain ⟨e1, e⟩ := xt2 e
    exact ⟨e1, xif e (fun e => ⟨v, h2, e, q⟩) (fun e => ⟨v, h2, e, q⟩)⟩
  · cases e
def xEq (K1 K2 : yX) : yX := fun loc st h => match st with
  | b :: a :: st => cond (Nat.beq a.1 0 && Nat.beq b.1 0) (if a.2 = b.2 then K1 loc st h else K2 loc st h) none
  | _ => none
theorem x_eq {Qr : yQt} {t : Nat} {K1 K2 : yX} : ∀ loc st h, xw Qr t (xEq K1 K2) loc st h → yEq (xw Qr t K1) (xw Qr t K2) loc st h := by
  intro loc st h ⟨v, h2, e, q⟩
  unfold xEq at e
  unfold yEq
  split at e
  · rename_i b a st
    obtain ⟨e1, e⟩ := xt2 e
    exact ⟨e1, xif e (fun e => ⟨v, h2, e, q⟩) (fun e => ⟨v, h2, e, q⟩)⟩
  · cases e
def xLt0 (K1 K2 : yX) : yX := fun loc st h => match st with
  | a :: st => cond (Nat.beq a.1 0) (if a.2 < 0 then K1 loc st h else K2 loc st h) none
  | _ => none
theorem x_lt0 {Qr : yQt} {t : Nat} {K1 K2 : yX} : ∀ loc st h, xw Qr t (xLt0 K1 K2) loc st h → yLt0 (xw Qr t K1) (xw Qr t K2) loc st h := by
  intro loc st h ⟨v, h2, e, q⟩
  unfold xLt0 at e
  unfold yLt0
  split at e
  · rename_i a st
    obtain ⟨e1, e⟩ := xt1 e
    exact ⟨e1, xif e (fun e => ⟨v, h2, e, q⟩) (fun e => ⟨v, h2, e, q⟩)⟩
  · cases e
def xGt0 (K1 K2 : yX) : yX := fun loc st h => match st with
  | a :: st => cond (Nat.beq a.1 0) (if 0 < a.2 then K1 loc st h else K2 loc st h) none
  | _ => none
theorem x_gt0 {Qr : yQt} {t : Nat} {K1 K2 : yX} : ∀ loc st h, xw Qr t (xGt0 K1 K2) loc st h → yGt0 (xw Qr t K1) (xw Qr t K2) loc st h := by
  intro loc st h ⟨v, h2, e, q⟩
  unfold xGt0 at e
  unfold yGt0
  split at e
  · rename_i a st
    obtain ⟨e1, e⟩ := xt1 e
    exact ⟨e1, xif e (fun e => ⟨v, h2, e, q⟩) (fun e => ⟨v, h2, e, q⟩)⟩
  · cases e
def xEq0 (K1 K2 : yX) : yX := fun loc st h => match st with
  | a :: st => cond (Nat.beq a.1 0) (if a.2 = 0 then K1 loc st h else K2 loc st h) none
  | _ => none
theorem x_eq0 {Qr : yQt} {t : Nat} {K1 K2 : yX} : ∀ loc st h, xw Qr t (xEq0 K1 K2) loc st h → yEq0 (xw Qr t K1) (xw Qr t K2) loc st h := by
  intro loc st h ⟨v, h2, e, q⟩
  unfold xEq0 at e
  unfold yEq0
  split at e
  · rename_i a st
    obtain ⟨e1, e⟩ := xt1 e
    exact ⟨e1, xif e (fun e => ⟨v, h2, e, q⟩) (fun e => ⟨v, h2, e, q⟩)⟩
  · cases e
def xLEq (K1 K2 : yX) : yX := fun loc st h => match st with
  | b :: a :: st => cond (Nat.beq a.1 1 && Nat.beq b.1 1) (if a.2 = b.2 then K1 loc st h else K2 loc st h) none
  | _ => none
theorem x_leq {Qr : yQt} {t : Nat} {K1 K2 : yX} : ∀ loc st h, xw Qr t (xLEq K1 K2) loc st h → yLEq (xw Qr t K1) (xw Qr t K2) loc st h := by
  intro loc st h ⟨v, h2, e, q⟩
  unfold xLEq at e
  unfold yLEq
  split at e
  · rename_i b a st
    obtain ⟨e1, e⟩ := xt2 e
    exact ⟨e1, xif e (fun e => ⟨v, h2, e, q⟩) (fun e => ⟨v, h2, e, q⟩)⟩
  · cases e
def xNull (K1 K2 : yX) : yX := fun loc st h => match st with
  | a :: st => cond (Nat.ble 2 a.1) (if a.2 < 0 then K1 loc st h else K2 loc st h) none
  | _ => none
theorem x_null {Qr : yQt} {t : Nat} {K1 K2 : yX} : ∀ loc st h, xw Qr t (xNull K1 K2) loc st h → yNull (xw Qr t K1) (xw Qr t K2) loc st h := by
  intro loc st h ⟨v, h2, e, q⟩
  unfold xNull at e
  unfold yNull
  split at e
  · rename_i a st
    obtain ⟨e1, e⟩ := xt_s e
    exact ⟨Nat.le_of_ble_eq_true e1, xif e (fun e => ⟨v, h2, e, q⟩) (fun e => ⟨v, h2, e, q⟩)⟩
  · cases e
def xsw (x : Int) (Kd : yX) : List (Int × yX) → yX
  | [] => Kd
  | (k, K) :: r => fun loc st h => if x = k then K loc st h else xsw x Kd r loc st h
def xSw (l : List (Int × yX)) (Kd : yX) : yX := fun loc st h => match st with
  | a :: st => cond (Nat.beq a.1 0) (xsw a.2 Kd l loc st h) none
  | _ => none
theorem x_sw1 {Qr : yQt} {t : Nat} {x : Int} {Kd : yX} {l : List (Int × yX)} : ∀ loc st h, xw Qr t (xsw x Kd l) loc st h → ysw x (xw Qr t Kd) (l.map fun q => (q.1, xw Qr t q.2)) loc st h := by
  induction l with
  | nil => exact fun _ _ _ h => h
  | cons p r ih =>
    intro loc st h ⟨v, h2, e, q⟩
    obtain ⟨k, K⟩ := p
    exact xif e (fun e => ⟨v, h2, e, q⟩) (fun e => ih loc st h ⟨v, h2, e, q⟩)
theorem x_sw {Qr : yQt} {t : Nat} {Kd : yX} {l : List (Int × yX)} : ∀ loc st h, xw Qr t (xSw l Kd) loc st h → ySw (l.map fun q => (q.1, xw Qr t q.2)) (xw Qr t Kd) loc st h := by
  intro loc st h ⟨v, h2, e, q⟩
  unfold xSw at e
  unfold ySw
  split at e
  · rename_i a st
    obtain ⟨e1, e⟩ := xt1 e
    exact ⟨e1, x_sw1 _ _ _ ⟨v, h2, e, q⟩⟩
  · cases e
def xRi : yX := fun _ st h => match st with
  | [a] => cond (Nat.beq a.1 0) (some (a.2, h)) none
  | _ => none
theorem x_ri {Qr : yQt} : ∀ loc st h, xw Qr 0 xRi loc st h → yRi Qr loc st h := by
  intro loc st h ⟨v, h2, e, q⟩
  unfold xRi at e
  unfold yRi
  split at e
  · rename_i a
    obtain ⟨e1, e⟩ := xt1 e
    cases e
    refine ⟨e1, ?_⟩
    obtain ⟨ta, na⟩ := a
    simp only at e1
    subst e1
    exact q
  · cases e
def xRz : yX := fun _ st h => match st with
  | [a] => cond (Nat.beq a.1 0) (xg (0 ≤ a.2 ∧ a.2 ≤ 1) (some (a.2, h))) none
  | _ => none
theorem x_rz {Qr : yQt} : ∀ loc st h, xw Qr 0 xRz loc st h → yRz Qr loc st h := by
  intro loc st h ⟨v, h2, e, q⟩
  unfold xRz at e
  unfold yRz
  split at e
  · rename_i a
    obtain ⟨e1, e⟩ := xt1 e
    obtain ⟨e2, e⟩ := xg_s e
    cases e
    refine ⟨e1, e2, ?_⟩
    obtain ⟨ta, na⟩ := a
    simp only at e1
    subst e1
    exact q
  · cases e
def xRa (k : Nat) : yX := fun _ st h => match st with
  | [a] => cond (Nat.beq a.1 (k + 100002) || Nat.beq a.1 (k + 2)) (some (a.2, h)) (cond (Nat.ble 2 a.1) (xg (a.2 = -1) (some (a.2, h))) none)
  | _ => none
theorem x_ra {k : Nat} {Qr : yQt} : ∀ loc st h, xw Qr (k + 2) (xRa k) loc st h → yRa k Qr loc st h := by
  intro loc st h ⟨v, h2, e, q⟩
  unfold xRa at e
  unfold yRa
  split at e
  · rename_i a
    cases hb : (Nat.beq a.1 (k + 100002) || Nat.beq a.1 (k + 2)) with
    | true =>
      rw [hb] at e
      cases e
      rw [Bool.or_eq_true] at hb
      refine ⟨?_, q⟩
      rcases hb with hb | hb
      · exact Or.inl (Nat.eq_of_beq_eq_true hb)
      · exact Or.inr (Or.inl (Nat.eq_of_beq_eq_true hb))
    | false =>
      rw [hb] at e
      obtain ⟨e1, e⟩ := xt_s e
      obtain ⟨e2, e⟩ := xg_s e
      cases e
      exact ⟨Or.inr (Or.inr ⟨Nat.le_of_ble_eq_true e1, e2⟩), q⟩
  · cases e
def xRv : yX := fun _ st h => match st with
  | [] => some (0, h)
  | _ => none
theorem x_rv {Qr : yQt} : ∀ loc st h, xw Qr 0 xRv loc st h → yRv Qr loc st h := by
  intro loc st h ⟨v, h2, e, q⟩
  unfold xRv at e
  unfold yRv
  split at e
  · cases e
    exact q
  · cases e
/-- what a method does: a function with so much fuel -/
abbrev yFn : Type := Nat → List Int → yH → yO
def yF (t : Nat) (f : yFn) : yB := fun _ ys h Qr => ∃ n v h', f n ys h = some (v, h') ∧ Qr (t, v) h'
def xtg : List Nat → List Nat → Bool
  | [], [] => true
  | a :: r, b :: q => Nat.beq a b && xtg r q
  | _, _ => false
theorem x_tg : ∀ {a b : List Nat}, xtg a b = true → a = b := by
  intro a
  induction a with
  | nil =>
    intro b h
    cases b with
    | nil => rfl
    | cons _ _ => cases h
  | cons x r ih =>
    intro b h
    cases b with
    | nil => cases h
    | cons y q =>
      simp only [xtg, Bool.and_eq_true] at h
      rw [Nat.eq_of_beq_eq_true h.1, ih h.2]
def xCalR (n : Nat) (tags : List Nat) (u : Nat) (f : List Int → yH → yO) (K : yX) : yX := fun loc st h =>
  cond (Nat.ble n st.length && (Nat.ble (st.drop n).length 4 && xtg ((st.take n).reverse.map Prod.fst) tags)) (xb (f ((st.take n).reverse.map Prod.snd) h) (fun v h' => K loc ((u, v) :: st.drop n) h')) none
theorem x_calR {n : Nat} {tags : List Nat} {u n0 : Nat} {f : yFn} {Θ : Nat → Option Nat} {Qr : yQt} {t : Nat} {K : yX} : ∀ loc st h, xw Qr t (xCalR n tags u (f n0) K) loc st h → yCalR Θ n tags (yF u f) (xw Qr t K) loc st h := by
  intro loc st h ⟨v, h2, e, q⟩
  unfold xCalR at e
  obtain ⟨e1, e⟩ := xt_s e
  rw [Bool.and_eq_true, Bool.and_eq_true] at e1
  obtain ⟨v', h', e2, e3⟩ := xb_s e
  exact ⟨⟨Nat.le_of_ble_eq_true e1.1, Nat.le_of_ble_eq_true e1.2.1⟩, x_tg e1.2.2, n0, v', h', e2, fun _ => ⟨v, h2, e3, q⟩⟩
def xCalV (n : Nat) (tags : List Nat) (f : List Int → yH → yO) (K : yX) : yX := fun loc st h =>
  cond (Nat.ble n st.length && (Nat.ble (st.drop n).length 4 && xtg ((st.take n).reverse.map Prod.fst) tags)) (xb (f ((st.take n).reverse.map Prod.snd) h) (fun _ h' => K loc (st.drop n) h')) none
theorem x_calV {n : Nat} {tags : List Nat} {u n0 : Nat} {f : yFn} {Θ : Nat → Option Nat} {Qr : yQt} {t : Nat} {K : yX} : ∀ loc st h, xw Qr t (xCalV n tags (f n0) K) loc st h → yCalV Θ n tags (yF u f) (xw Qr t K) loc st h := by
  intro loc st h ⟨v, h2, e, q⟩
  unfold xCalV at e
  obtain ⟨e1, e⟩ := xt_s e
  rw [Bool.and_eq_true, Bool.and_eq_true] at e1
  obtain ⟨v', h', e2, e3⟩ := xb_s e
  exact ⟨⟨Nat.le_of_ble_eq_true e1.1, Nat.le_of_ble_eq_true e1.2.1⟩, x_tg e1.2.2, n0, v', h', e2, ⟨v, h2, e3, q⟩⟩
/-- a place that is reached from several: its state by the numbers of its locals and its stack -/
abbrev yK : Type := List Int → yH → yO
def xJ (ls : List (Nat × Nat)) (sts : List Nat) (K : yK) : yX := fun loc st h => match yvs ls loc with
  | some vs => cond (xtg (st.map Prod.fst) sts) (K (vs ++ st.map Prod.snd) h) none
  | none => none
/-- and the walk from there on -/
def xE (ls : List (Nat × Nat)) (sts : List Nat) (X : yX) : yK := fun vs h => X (ycan ls (vs.take ls.length)) (sts.zip (vs.drop ls.length)) h
theorem y_vsl {loc : yL} : ∀ {ls : List (Nat × Nat)} {vs : List Int}, yvs ls loc = some vs → vs.length = ls.length := by
  intro ls
  induction ls with
  | nil =>
    intro vs h
    simp only [yvs, Option.some.injEq] at h
    subst h
    rfl
  | cons p r ih =>
    obtain ⟨i, t⟩ := p
    intro vs h
    unfold yvs at h
    split at h
    · split at h
      · cases hr : yvs r loc with
        | none => rw [hr] at h; cases h
        | some vs' =>
          rw [hr] at h
          simp only [Option.map_some, Option.some.injEq] at h
          subst h
          simp only [List.length_cons]
          rw [ih hr]
      · cases h
    · cases h
section XRW
variable {kds : List zKD} {D : va_G} {cl : List vw_C} {cy : Nat → ClassId} {L : List Nat} {Θ : Nat → Option Nat} {nL : Nat}
variable {p : Program} {l : Launch} {e : Env} {R : Room} {s : State} {m : MethodId} {args : Array Value} {below : List Frame} {meth : Method} {c : Code} {Q : State → Prop}
variable {pc : Nat} {P P' : yP} {Qr : yQt} {t : Nat}
theorem xr_none : yGo η kds D cl cy L Θ nL p l e R s m args below meth c Q pc (xw Qr t (fun _ _ _ => none)) := by
  intro loc st h H locs ls hp g
  obtain ⟨v, h', e, _⟩ := hp
  cases e
theorem xr_J0 {ls0 : List (Nat × Nat)} {sts : List Nat} : yGo η kds D cl cy L Θ nL p l e R s m args below meth c Q pc (xw Qr t (xJ ls0 sts (fun _ _ => none))) := by
  intro loc st h H locs ls hp g
  obtain ⟨v, h', e, _⟩ := hp
  unfold xJ at e
  split at e
  · cases hb : xtg (st.map Prod.fst) sts with
    | true => rw [hb] at e; cases e
    | false => rw [hb] at e; cases e
  · cases e
theorem xr_E {ls0 : List (Nat × Nat)} {sts : List Nat} {X : yX} (k : yGo η kds D cl cy L Θ nL p l e R s m args below meth c Q pc (xw Qr t X)) : yGo η kds D cl cy L Θ nL p l e R s m args below meth c Q pc (xw Qr t (xJ ls0 sts (xE ls0 sts X))) := by
  intro loc st h H locs ls hp g
  obtain ⟨v, h', e, q⟩ := hp
  unfold xJ at e
  split at e
  · rename_i vs hv
    obtain ⟨e1, e⟩ := xt_s e
    have hl := y_vsl hv
    unfold xE at e
    rw [List.take_append_of_le_length (by omega), List.take_of_length_le (by omega), List.drop_append_of_le_length (by omega), List.drop_of_length_le (by omega), List.nil_append, y_zip (x_tg e1)] at e
    refine k (ycan ls0 vs) st h H locs ls ⟨v, h', e, q⟩ ⟨fun q hq => g.1 q (y_vsm hv q hq), ⟨g.2.1.1, g.2.1.2.1, fun q hq => ?_⟩, g.2.2.1, g.2.2.2⟩
    obtain ⟨q', hq', rfl⟩ := List.mem_map.mp hq
    exact g.2.1.2.2 _ (List.mem_map.mpr ⟨q', y_vsm hv q' hq', rfl⟩)
  · cases e
theorem xr_ast0 {k n : Nat} {K : yX} (w : yGo η kds D cl cy L Θ nL p l e R s m args below meth c Q pc (yAst k n (fun _ => -2147483648) (fun _ => 2147483647) (xw Qr t K))) : yGo η kds D cl cy L Θ nL p l e R s m args below meth c Q pc (xw Qr t (xAst0 k n K)) := fun loc st h H locs ls hp g => w loc st h H locs ls (x_ast0 loc st h g.2.2.1 hp) g
end XRW
/-- a method keeps the contract of its function -/
theorem y_metF {kds : List zKD} {cl : List vw_C} {TW : List Cond} {KP : zKPt} {tyf : (Nat → ClassId) → List (ClassId × FieldType)} {l : Launch} (hKP : zKPok cl tyf KP) (hg : zgoodW TW) (y : yY) (fr lo : Nat) (tags : List Nat) (t : Nat) (ent : Nat → yX) (hy : plainName y.1.cls = true) (hw : ywd tags ≤ y.2.2.1)
    (hgo : ∀ (η : zRn) (D : va_G) (cy : Nat → ClassId) (L : List Nat) (Θ : Nat → Option Nat) (p : Program) (e : Env) (R : Room) (s : State) (m : MethodId) (args : Array Value) (below : List Frame) (meth : Method) (c : Code) (Q : State → Prop) (Qr : yQt) (n : Nat),
      yCz η kds D cl cy L Θ y.2.2.1 p l e R s m args below meth c Q y.2.1 (tyf cy) y.1.cls TW KP tyf y.2.2.2 fr lo Qr → yGo η kds D cl cy L Θ y.2.2.1 p l e R s m args below meth c Q 0 (xw Qr t (ent n))) : yMet kds cl TW KP l y fr lo tags (yF t (fun n ys h => ent n (yar 0 (tags.zip ys)) [] h)) :=
  y_met hKP hg y fr lo tags _ (fun _ _ _ Qr loc st h => ∃ n, xw Qr t (ent n) loc st h) hy hw (fun Θ xs h Qr ht _ hB => by
    obtain ⟨n, v, h', e, q⟩ := hB
    have e : ent n (yar 0 (tags.zip (xs.map Prod.snd))) [] h = some (v, h') := e
    rw [y_zip ht] at e
    exact ⟨n, v, h', e, q⟩) (fun η D cy L Θ p e R s m args below meth c Q xs h Qr _ _ Z => fun loc st h' H locs ls hp g => by
    obtain ⟨n, hp⟩ := hp
    exact hgo η D cy L Θ p e R s m args below meth c Q Qr n Z loc st h' H locs ls hp g)
def xArg (op : Nat) (K : yX) : yX := fun loc st h => match st with
  | b :: a :: st => cond (Nat.beq a.1 0 && Nat.beq b.1 0) (xg (1 ≤ b.2) (K loc ((0, yari op a.2 b.2) :: st) h)) none
  | _ => none
theorem x_arg {op : Nat} {Qr : yQt} {t : Nat} {K : yX} : ∀ loc st h, xw Qr t (xArg op K) loc st h → yArg op (xw Qr t K) loc st h := by
  intro loc st h ⟨v, h2, e, q⟩
  unfold xArg at e
  unfold yArg
  split at e
  · rename_i b a st
    obtain ⟨e1, e⟩ := xt2 e
    obtain ⟨e2, e⟩ := xg_s e
    exact ⟨e1, e2, v, h2, e, q⟩
  · cases e
def xMax (K : yX) : yX := fun loc st h => match st with
  | b :: a :: st => cond (Nat.beq a.1 0 && Nat.beq b.1 0) (cond (Nat.ble st.length 4) (K loc ((0, max a.2 b.2) :: st) h) none) none
  | _ => none
theorem x_max {Qr : yQt} {t : Nat} {K : yX} : ∀ loc st h, xw Qr t (xMax K) loc st h → yMax (xw Qr t K) loc st h := by
  intro loc st h ⟨v, h2, e, q⟩
  unfold xMax at e
  unfold yMax
  split at e
  · rename_i b a st
    obtain ⟨e1, e⟩ := xt2 e
    obtain ⟨e2, e⟩ := xt_s e
    exact ⟨e1, Nat.le_of_ble_eq_true e2, v, h2, e, q⟩
  · cases e
def xMin (K : yX) : yX := fun loc st h => match st with
  | b :: a :: st => cond (Nat.beq a.1 0 && Nat.beq b.1 0) (cond (Nat.ble st.length 4) (K loc ((0, min a.2 b.2) :: st) h) none) none
  | _ => none
theorem x_min {Qr : yQt} {t : Nat} {K : yX} : ∀ loc st h, xw Qr t (xMin K) loc st h → yMin (xw Qr t K) loc st h := by
  intro loc st h ⟨v, h2, e, q⟩
  unfold xMin at e
  unfold yMin
  split at e
  · rename_i b a st
    obtain ⟨e1, e⟩ := xt2 e
    obtain ⟨e2, e⟩ := xt_s e
    exact ⟨e1, Nat.le_of_ble_eq_true e2, v, h2, e, q⟩
  · cases e
def xTab (tab : List Int) (i : Nat) (d : Int) (K : yX) : yX := fun loc st h => match yfind loc i with
  | some a => cond (Nat.beq a.1 0) (xg (0 ≤ a.2 + d ∧ a.2 + d < (tab.length : Int)) (K loc ((0, tab.getD (a.2 + d).toNat 0) :: st) h)) none
  | none => none
theorem x_tab {tab : List Int} {i : Nat} {d : Int} {Qr : yQt} {t : Nat} {K : yX} : ∀ loc st h, xw Qr t (xTab tab i d K) loc st h → yTab tab i d (xw Qr t K) loc st h := by
  intro loc st h ⟨v, h2, e, q⟩
  unfold xTab at e
  unfold yTab
  split at e
  · rename_i a ha
    rw [ha]
    obtain ⟨e1, e⟩ := xt1 e
    obtain ⟨e2, e⟩ := xg_s e
    exact ⟨e1, e2, v, h2, e, q⟩
  · cases e
def xSln (kk : Nat) (K : yX) : yX := fun loc st h => match st with
  | a :: st => cond (Nat.beq a.1 (kk + 100002)) (xg (1000000 ≤ a.2 ∧ a.2 < 1000015) (cond (Nat.ble st.length 4) (K loc ((0, (zSl.getD ((a.2 - 1000000).toNat) 0 : Nat)) :: st) h) none)) none
  | _ => none
theorem x_sln {kk : Nat} {Qr : yQt} {t : Nat} {K : yX} : ∀ loc st h, xw Qr t (xSln kk K) loc st h → ySln kk (xw Qr t K) loc st h := by
  intro loc st h ⟨v, h2, e, q⟩
  unfold xSln at e
  unfold ySln
  split at e
  · rename_i a st
    obtain ⟨e1, e⟩ := xt1 e
    obtain ⟨e2, e⟩ := xg_s e
    obtain ⟨e3, e⟩ := xt_s e
    exact ⟨e1, e2, Nat.le_of_ble_eq_true e3, v, h2, e, q⟩
  · cases e
def xSch (kk : Nat) (K : yX) : yX := fun loc st h => match st with
  | b :: a :: st => cond (Nat.beq a.1 (kk + 100002) && Nat.beq b.1 0) (xg (1000000 ≤ a.2 ∧ a.2 < 1000015) (xg (0 ≤ b.2 ∧ b.2 < ((zSl.getD ((a.2 - 1000000).toNat) 0 : Nat) : Int)) (cond (Nat.ble st.length 4) (K loc ((0, zch ((a.2 - 1000000).toNat) b.2.toNat) :: st) h) none))) none
  | _ => none
theorem x_sch {kk : Nat} {Qr : yQt} {t : Nat} {K : yX} : ∀ loc st h, xw Qr t (xSch kk K) loc st h → ySch kk (xw Qr t K) loc st h := by
  intro loc st h ⟨v, h2, e, q⟩
  unfold xSch at e
  unfold ySch
  split at e
  · rename_i b a st
    obtain ⟨e1, e⟩ := xt2 e
    obtain ⟨e2, e⟩ := xg_s e
    obtain ⟨e4, e⟩ := xg_s e
    obtain ⟨e3, e⟩ := xt_s e
    exact ⟨e1, e2, e4, Nat.le_of_ble_eq_true e3, v, h2, e, q⟩
  · cases e
def xCpy (k0 n0 k1 n1 : Nat) (K : yX) : yX := fun loc st h => match st with
  | n :: dp :: ds :: sp :: sr :: st => cond (xtg [n.1, dp.1, ds.1, sp.1, sr.1] [0, 0, k1 + 100002, 0, k0 + 100002]) (xg (0 ≤ n.2 ∧ 0 ≤ dp.2 ∧ 0 ≤ sp.2 ∧ sp.2 + n.2 ≤ (n0 : Int) ∧ dp.2 + n.2 ≤ (n1 : Int)) (cond (Nat.ble st.length 4) (K loc st (zcy h ds.2.toNat sr.2.toNat sp.2.toNat dp.2.toNat n.2.toNat)) none)) none
  | _ => none
theorem x_cpy {k0 n0 k1 n1 : Nat} {Qr : yQt} {t : Nat} {K : yX} : ∀ loc st h, xw Qr t (xCpy k0 n0 k1 n1 K) loc st h → yCpy k0 n0 k1 n1 (xw Qr t K) loc st h := by
  intro loc st h ⟨v, h2, e, q⟩
  unfold xCpy at e
  unfold yCpy
  split at e
  · rename_i n dp ds sp sr st
    obtain ⟨e1, e⟩ := xt_s e
    obtain ⟨e2, e⟩ := xg_s e
    obtain ⟨e3, e⟩ := xt_s e
    have e1 := x_tg e1
    simp only [List.cons.injEq, and_true] at e1
    exact ⟨e1, e2, Nat.le_of_ble_eq_true e3, v, h2, e, q⟩
  · cases e
/-- a choice by the number of a local -/
def xcs (x : Int) : List (Int × yX) → yX
  | [] => fun _ _ _ => none
  | (k, X) :: r => fun loc st h => if x = k then X loc st h else xcs x r loc st h
def xCase (i : Nat) (l : List (Int × yX)) : yX := fun loc st h => match yfind loc i with
  | some a => xcs a.2 l loc st h
  | none => none
theorem yak_of {kds : List zKD} {k n : Nat} {K : zKD} (h1 : kds[k]? = some K) (h2 : K.1 = 1 ∧ K.2.1 = 0) (h3 : K.2.2.1 = n) (h4 : K.2.2.2.all (fun q => Nat.beq q.1 0) = true) : yak kds k n K := by
  refine ⟨h1, h2, h3, fun j _ => ?_⟩
  unfold zty
  rw [List.getD_eq_getElem?_getD]
  cases hq : K.2.2.2[j % K.2.2.2.length]? with
  | none => rfl
  | some q => exact Nat.eq_of_beq_eq_true (List.all_eq_true.mp h4 q (List.mem_of_getElem? hq))
section XCS
variable {kds : List zKD} {D : va_G} {cl : List vw_C} {cy : Nat → ClassId} {L : List Nat} {Θ : Nat → Option Nat} {nL : Nat}
variable {p : Program} {l : Launch} {e : Env} {R : Room} {s : State} {m : MethodId} {args : Array Value} {below : List Frame} {meth : Method} {c : Code} {Q : State → Prop}
variable {pc : Nat} {Qr : yQt} {t : Nat}
theorem xr_cs {x : Int} {ws : List (Int × yX)} (k : ∀ q ∈ ws, yGo η kds D cl cy L Θ nL p l e R s m args below meth c Q pc (xw Qr t q.2)) : yGo η kds D cl cy L Θ nL p l e R s m args below meth c Q pc (xw Qr t (xcs x ws)) := by
  induction ws with
  | nil => exact xr_none
  | cons q r ih =>
    obtain ⟨k0, X⟩ := q
    intro loc st h H locs ls hp g
    obtain ⟨v, h', e, q⟩ := hp
    simp only [xcs] at e
    split at e
    · exact k (k0, X) List.mem_cons_self loc st h H locs ls ⟨v, h', e, q⟩ g
    · exact ih (fun q hq => k q (List.mem_cons_of_mem _ hq)) loc st h H locs ls ⟨v, h', e, q⟩ g
theorem xr_case {i : Nat} {ws : List (Int × yX)} (k : ∀ q ∈ ws, yGo η kds D cl cy L Θ nL p l e R s m args below meth c Q pc (xw Qr t q.2)) : yGo η kds D cl cy L Θ nL p l e R s m args below meth c Q pc (xw Qr t (xCase i ws)) := by
  intro loc st h H locs ls hp g
  obtain ⟨v, h', e, q⟩ := hp
  unfold xCase at e
  split at e
  · rename_i a ha
    exact xr_cs (x := a.2) k loc st h H locs ls ⟨v, h', e, q⟩ g
  · cases e
end XCS
