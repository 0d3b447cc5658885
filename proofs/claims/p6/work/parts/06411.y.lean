variable {η : zRn}
/-! walks over numbers: what a stretch of code does to locals, stack and cells, as a predicate of the numbers. A value is a tag and a number: 0 int, 1 long, k + 2 a cell of kind k or null (-1), k + 100002 a cell of kind k -/
abbrev yV : Type := Nat × Int
abbrev yL : Type := List (Nat × yV)
abbrev yH : Type := Nat → Nat → Int
abbrev yP : Type := yL → List yV → yH → Prop
abbrev yQt : Type := yV → yH → Prop
abbrev yB : Type := (Nat → Option Nat) → List Int → yH → yQt → Prop
def yvo (η : zRn) (a : yV) : Value := zdec η a.1 a.2
def yok (Θ : Nat → Option Nat) (a : yV) : Prop := @ite Prop (a.1 < 100002) (Classical.propDecidable _) (zok Θ a.1 a.2) (0 ≤ a.2 ∧ Θ a.2.toNat = some (a.1 - 100002))
def yfind : yL → Nat → Option yV
  | [], _ => none
  | (j, a) :: r, i => if j = i then some a else yfind r i
def ydel : yL → Nat → yL
  | [], _ => []
  | (j, a) :: r, i => if j = i then ydel r i else if j + 1 = i ∧ a.1 = 1 then ydel r i else (j, a) :: ydel r i
def yput (loc : yL) (i : Nat) (a : yV) : yL := (i, a) :: ydel loc i
/-- values as they come from a slot of a kind: the tag of a slot that is never null -/
def ytag (t : Nat × Int × Int) : Nat := if 2 ≤ t.1 ∧ 0 ≤ t.2.1 then t.1 + 100000 else t.1
def yG (η : zRn) (kds : List zKD) (D : va_G) (cl : List vw_C) (cy : Nat → ClassId) (L : List Nat) (Θ : Nat → Option Nat) (H0 : Heap) (nL : Nat) (loc : yL) (st : List yV) (h : yH) (H : Heap) (locs : List Loc) (ls : Array Slot) : Prop :=
  (∀ q ∈ loc, yok Θ q.2) ∧ lv_has ls nL (loc.map fun q => (q.1, yvo η q.2)) ∧ (∀ a ∈ st, yok Θ a) ∧ zH η kds D cl cy L Θ h H ∧ va_S (fun q => q ∈ L) H0 H locs
def yGo (η : zRn) (kds : List zKD) (D : va_G) (cl : List vw_C) (cy : Nat → ClassId) (L : List Nat) (Θ : Nat → Option Nat) (nL : Nat) (p : Program) (l : Launch) (e : Env) (R : Room) (s : State) (m : MethodId) (args : Array Value) (below : List Frame) (meth : Method) (c : Code) (Q : State → Prop) (pc : Nat) (P : yP) : Prop :=
  ∀ (loc : yL) (st : List yV) (h : yH) (H : Heap) (locs : List Loc) (ls : Array Slot), P loc st h → yG η kds D cl cy L Θ s.heap nL loc st h H locs ls → W p l e R s m args below meth c H locs 0 0 Q (F0 m pc ls (st.map (yvo η)))
/-! what instructions are -/
def yCst (t : Nat) (n : Int) (P : yP) : yP := fun loc st h => P loc ((t, n) :: st) h
def yLd (i t : Nat) (P : yP) : yP := fun loc st h => match yfind loc i with
  | some a => a.1 = t ∧ P loc (a :: st) h
  | none => False
def ySt (i t : Nat) (P : yP) : yP := fun loc st h => match st with
  | a :: st' => a.1 = t ∧ P (yput loc i a) st' h
  | [] => False
def ySt2 (i : Nat) (P : yP) : yP := fun loc st h => match st with
  | a :: st' => a.1 = 1 ∧ P (yput (ydel loc (i + 1)) i a) st' h
  | [] => False
def yInc (i : Nat) (n : Int) (P : yP) : yP := fun loc st h => match yfind loc i with
  | some a => a.1 = 0 ∧ (-2147483648 ≤ a.2 + n ∧ a.2 + n ≤ 2147483647) ∧ P (yput loc i (0, a.2 + n)) st h
  | none => False
def yAdd (P : yP) : yP := fun loc st h => match st with
  | b :: a :: st' => (a.1 = 0 ∧ b.1 = 0) ∧ (-2147483648 ≤ a.2 + b.2 ∧ a.2 + b.2 ≤ 2147483647) ∧ P loc ((0, a.2 + b.2) :: st') h
  | _ => False
def ySub (P : yP) : yP := fun loc st h => match st with
  | b :: a :: st' => (a.1 = 0 ∧ b.1 = 0) ∧ (-2147483648 ≤ a.2 - b.2 ∧ a.2 - b.2 ≤ 2147483647) ∧ P loc ((0, a.2 - b.2) :: st') h
  | _ => False
def yMul (P : yP) : yP := fun loc st h => match st with
  | b :: a :: st' => (a.1 = 0 ∧ b.1 = 0) ∧ (-2147483648 ≤ a.2 * b.2 ∧ a.2 * b.2 ≤ 2147483647) ∧ P loc ((0, a.2 * b.2) :: st') h
  | _ => False
/-- the other operations of two numbers, as the machine does them -/
def yari (op : Nat) (x y : Int) : Int := (zsem op (Int32.ofInt x) (Int32.ofInt y)).toInt
def yAri (op : Nat) (P : yP) : yP := fun loc st h => match st with
  | b :: a :: st' => (a.1 = 0 ∧ b.1 = 0) ∧ P loc ((0, yari op a.2 b.2) :: st') h
  | _ => False
def yushr (x y : Int) : Int := (((Int32.ofInt x).toUInt32 >>> ((Int32.ofInt y).toUInt32 &&& Int32.toUInt32 31)).toInt32).toInt
def yUshr (P : yP) : yP := fun loc st h => match st with
  | b :: a :: st' => (a.1 = 0 ∧ b.1 = 0) ∧ P loc ((0, yushr a.2 b.2) :: st') h
  | _ => False
def yi2b (x : Int) : Int := ((Int32.ofInt x).toInt8.toInt32).toInt
def yI2b (P : yP) : yP := fun loc st h => match st with
  | a :: st' => a.1 = 0 ∧ P loc ((0, yi2b a.2) :: st') h
  | _ => False
def yI2l (P : yP) : yP := fun loc st h => match st with
  | a :: st' => a.1 = 0 ∧ P loc ((1, a.2) :: st') h
  | _ => False
def ylor (x y : Int) : Int := (Int64.ofInt x ||| Int64.ofInt y).toInt
def yLor (P : yP) : yP := fun loc st h => match st with
  | b :: a :: st' => (a.1 = 1 ∧ b.1 = 1) ∧ P loc ((1, ylor a.2 b.2) :: st') h
  | _ => False
def ylshl (x y : Int) : Int := (Int64.ofInt x <<< ((Int32.ofInt y).toInt64 &&& 63)).toInt
def yLshl (P : yP) : yP := fun loc st h => match st with
  | b :: a :: st' => (a.1 = 1 ∧ b.1 = 0) ∧ P loc ((1, ylshl a.2 b.2) :: st') h
  | _ => False
def yDup (P : yP) : yP := fun loc st h => match st with
  | a :: st' => ¬ a.1 = 1 ∧ P loc (a :: a :: st') h
  | _ => False
def yDup2 (P : yP) : yP := fun loc st h => match st with
  | a :: b :: st' => (¬ a.1 = 1 ∧ ¬ b.1 = 1) ∧ P loc (a :: b :: a :: b :: st') h
  | _ => False
/-- a value that may be null is none (no instruction) -/
def yNn (Θ : Nat → Option Nat) (P : yP) : yP := fun loc st h => match st with
  | a :: st' => (2 ≤ a.1 ∧ a.1 < 100002) ∧ 0 ≤ a.2 ∧ (Θ a.2.toNat = some (a.1 - 2) → P loc ((a.1 + 100000, a.2) :: st') h)
  | _ => False
def yGet (k j t : Nat) (lo hi : Int) (P : yP) : yP := fun loc st h => match st with
  | a :: st' => a.1 = k + 100002 ∧ (lo ≤ h a.2.toNat j → h a.2.toNat j ≤ hi → P loc ((t, h a.2.toNat j) :: st') h)
  | _ => False
/-- a field that holds a cell -/
def yGetP (Θ : Nat → Option Nat) (k j k2 : Nat) (P : yP) : yP := fun loc st h => match st with
  | a :: st' => a.1 = k + 100002 ∧ (0 ≤ h a.2.toNat j → Θ (h a.2.toNat j).toNat = some k2 → P loc ((k2 + 100002, h a.2.toNat j) :: st') h)
  | _ => False
def yPut (k j : Nat) (lo hi : Int) (P : yP) : yP := fun loc st h => match st with
  | v :: a :: st' => (a.1 = k + 100002 ∧ v.1 = 0) ∧ (lo ≤ v.2 ∧ v.2 ≤ hi) ∧ P loc st' (zup h a.2.toNat j v.2)
  | _ => False
def yPut0 (k j t : Nat) (P : yP) : yP := fun loc st h => match st with
  | v :: a :: st' => (a.1 = k + 100002 ∧ v.1 = t) ∧ P loc st' (zup h a.2.toNat j v.2)
  | _ => False
def yAld (k n : Nat) (lo hi : Nat → Int) (P : yP) : yP := fun loc st h => match st with
  | i :: a :: st' => (a.1 = k + 100002 ∧ i.1 = 0) ∧ (0 ≤ i.2 ∧ i.2 < (n : Int)) ∧ (lo i.2.toNat ≤ h a.2.toNat i.2.toNat → h a.2.toNat i.2.toNat ≤ hi i.2.toNat → P loc ((0, h a.2.toNat i.2.toNat) :: st') h)
  | _ => False
def yAldq (Θ : Nat → Option Nat) (k n k2 : Nat) (P : yP) : yP := fun loc st h => match st with
  | i :: a :: st' => (a.1 = k + 100002 ∧ i.1 = 0) ∧ (0 ≤ i.2 ∧ i.2 < (n : Int)) ∧ (0 ≤ h a.2.toNat i.2.toNat → Θ (h a.2.toNat i.2.toNat).toNat = some k2 → P loc ((k2 + 100002, h a.2.toNat i.2.toNat) :: st') h)
  | _ => False
def yAst (k n : Nat) (lo hi : Nat → Int) (P : yP) : yP := fun loc st h => match st with
  | v :: i :: a :: st' => (a.1 = k + 100002 ∧ i.1 = 0 ∧ v.1 = 0) ∧ (0 ≤ i.2 ∧ i.2 < (n : Int)) ∧ (lo i.2.toNat ≤ v.2 ∧ v.2 ≤ hi i.2.toNat) ∧ P loc st' (zup h a.2.toNat i.2.toNat v.2)
  | _ => False
def yLen (k : Nat) (n : Int) (P : yP) : yP := fun loc st h => match st with
  | a :: st' => a.1 = k + 100002 ∧ P loc ((0, n) :: st') h
  | _ => False
def yLt (P1 P2 : yP) : yP := fun loc st h => match st with
  | b :: a :: st' => (a.1 = 0 ∧ b.1 = 0) ∧ if a.2 < b.2 then P1 loc st' h else P2 loc st' h
  | _ => False
def yGt (P1 P2 : yP) : yP := fun loc st h => match st with
  | b :: a :: st' => (a.1 = 0 ∧ b.1 = 0) ∧ if b.2 < a.2 then P1 loc st' h else P2 loc st' h
  | _ => False
def yEq (P1 P2 : yP) : yP := fun loc st h => match st with
  | b :: a :: st' => (a.1 = 0 ∧ b.1 = 0) ∧ if a.2 = b.2 then P1 loc st' h else P2 loc st' h
  | _ => False
def yLt0 (P1 P2 : yP) : yP := fun loc st h => match st with
  | a :: st' => a.1 = 0 ∧ if a.2 < 0 then P1 loc st' h else P2 loc st' h
  | _ => False
def yGt0 (P1 P2 : yP) : yP := fun loc st h => match st with
  | a :: st' => a.1 = 0 ∧ if 0 < a.2 then P1 loc st' h else P2 loc st' h
  | _ => False
def yEq0 (P1 P2 : yP) : yP := fun loc st h => match st with
  | a :: st' => a.1 = 0 ∧ if a.2 = 0 then P1 loc st' h else P2 loc st' h
  | _ => False
/-- two longs: alike or not -/
def yLEq (P1 P2 : yP) : yP := fun loc st h => match st with
  | b :: a :: st' => (a.1 = 1 ∧ b.1 = 1) ∧ if a.2 = b.2 then P1 loc st' h else P2 loc st' h
  | _ => False
def yNull (P1 P2 : yP) : yP := fun loc st h => match st with
  | a :: st' => 2 ≤ a.1 ∧ if a.2 < 0 then P1 loc st' h else P2 loc st' h
  | _ => False
def ysw (x : Int) (Pd : yP) : List (Int × yP) → yP
  | [] => Pd
  | (k, P) :: r => fun loc st h => if x = k then P loc st h else ysw x Pd r loc st h
def ySw (l : List (Int × yP)) (Pd : yP) : yP := fun loc st h => match st with
  | a :: st' => a.1 = 0 ∧ ysw a.2 Pd l loc st' h
  | _ => False
def yRi (R : yQt) : yP := fun _ st h => match st with
  | [a] => a.1 = 0 ∧ R a h
  | _ => False
def yRz (R : yQt) : yP := fun _ st h => match st with
  | [a] => a.1 = 0 ∧ (0 ≤ a.2 ∧ a.2 ≤ 1) ∧ R a h
  | _ => False
/-- a reference goes back as one that may be null -/
def yRa (k : Nat) (R : yQt) : yP := fun _ st h => match st with
  | [a] => (a.1 = k + 100002 ∨ a.1 = k + 2 ∨ (2 ≤ a.1 ∧ a.2 = -1)) ∧ R (k + 2, a.2) h
  | _ => False
def yRv (R : yQt) : yP := fun _ st h => match st with
  | [] => R (0, 0) h
  | _ => False
/-- a call, of a method with an answer and of one without: tags of the values, and what the method does -/
def yCalR (Θ : Nat → Option Nat) (n : Nat) (tags : List Nat) (B : yB) (P : yP) : yP := fun loc st h => (n ≤ st.length ∧ (st.drop n).length ≤ 4) ∧ (st.take n).reverse.map Prod.fst = tags ∧ B Θ ((st.take n).reverse.map Prod.snd) h (fun v h' => yok Θ v → P loc (v :: st.drop n) h')
def yCalV (Θ : Nat → Option Nat) (n : Nat) (tags : List Nat) (B : yB) (P : yP) : yP := fun loc st h => (n ≤ st.length ∧ (st.drop n).length ≤ 4) ∧ (st.take n).reverse.map Prod.fst = tags ∧ B Θ ((st.take n).reverse.map Prod.snd) h (fun _ h' => P loc (st.drop n) h')
