/-! the step of the checker, for instructions that go straight on -/
def zlk {α : Type} : List (Nat × α) → Nat → Option α
  | [], _ => none
  | (j, a) :: r, i => if j = i then some a else zlk r i
theorem z_lk {α : Type} {l : List (Nat × α)} {i : Nat} {a : α} (h : zlk l i = some a) : (i, a) ∈ l := by
  induction l with
  | nil => cases h
  | cons q r ih =>
    obtain ⟨j, b⟩ := q
    unfold zlk at h
    split at h
    · rename_i e
      cases h
      subst e
      exact List.mem_cons_self
    · exact List.mem_cons_of_mem _ (ih h)
def zo_cst (as : zAS) (t : Nat) (n lo hi : Int) : Option zAS := if (decide (as.1[0]? = some (0, 0)) && decide (lo ≤ n) && decide (n ≤ hi)) = true then some (as.1, as.2.1, (t, 0, n) :: as.2.2.1, as.2.2.2) else none
def zo_ld (as : zAS) (i : Nat) (tp : Nat → Bool) : Option zAS := match zfind as.2.1 i with
  | some a => if tp a.1 = true then some (as.1, as.2.1, a :: as.2.2.1, as.2.2.2) else none
  | none => none
def zo_st (as : zAS) (i nL : Nat) (tp : Nat → Bool) : Option zAS := match as.2.2.1 with
  | a :: st => if (tp a.1 && decide (i < nL)) = true then some (as.1, zput as.2.1 i a, st, as.2.2.2) else none
  | [] => none
def zo_st2 (as : zAS) (i nL : Nat) : Option zAS := match as.2.2.1 with
  | a :: st => if (decide (a.1 = 1) && decide (i + 1 < nL)) = true then some (as.1, zput2 as.2.1 i a, st, as.2.2.2) else none
  | [] => none
def zo_ari (as : zAS) (op : Nat) : Option zAS := match as.2.2.1 with
  | b :: a :: st => if (decide (a.1 = 0) && decide (b.1 = 0)) = true then (match zari op as.1 a b with
      | some x => some (x.1, as.2.1, x.2 :: st, as.2.2.2)
      | none => none) else none
  | _ => none
def zo_f1 (as : zAS) (t1 t : Nat) (f : zIV → zIV) : Option zAS := match as.2.2.1 with
  | a :: st => if a.1 = t1 then (match ziv as.1 a with
      | some q => some (as.1 ++ [f q], as.2.1, (t, as.1.length, 0) :: st, as.2.2.2)
      | none => none) else none
  | _ => none
def zo_f2 (as : zAS) (t1 t2 t : Nat) (q : zIV) : Option zAS := match as.2.2.1 with
  | b :: a :: st => if (decide (a.1 = t1) && decide (b.1 = t2)) = true then some (as.1 ++ [q], as.2.1, (t, as.1.length, 0) :: st, as.2.2.2) else none
  | _ => none
def zo_iinc (as : zAS) (i : Nat) (n : Int) (nL : Nat) : Option zAS := match zfind as.2.1 i with
  | some a => if (decide (a.1 = 0) && decide (i < nL) && decide (as.1[0]? = some (0, 0)) && decide (-32768 ≤ n) && decide (n ≤ 32767)) = true then (match zari 0 as.1 a (0, 0, n) with
      | some x => some (x.1, zput as.2.1 i x.2, as.2.2.1, as.2.2.2)
      | none => none) else none
  | none => none
def zo_i2l (as : zAS) : Option zAS := match as.2.2.1 with
  | a :: st => if a.1 = 0 then some (as.1, as.2.1, (1, a.2.1, a.2.2) :: st, as.2.2.2) else none
  | [] => none
def zo_pop (as : zAS) : Option zAS := match as.2.2.1 with
  | a :: st => if a.1 = 1 then none else some (as.1, as.2.1, st, as.2.2.2)
  | [] => none
def zo_dup (as : zAS) : Option zAS := match as.2.2.1 with
  | a :: st => if a.1 = 1 then none else some (as.1, as.2.1, a :: a :: st, as.2.2.2)
  | [] => none
def zo_dup2 (as : zAS) : Option zAS := match as.2.2.1 with
  | a :: b :: st => if (decide (a.1 = 1) || decide (b.1 = 1)) = true then none else some (as.1, as.2.1, a :: b :: a :: b :: st, as.2.2.2)
  | _ => none
/-- fields by their numbers in the pool: class, field, and the type where it may be written -/
abbrev zFL : Type := List (Nat × Nat × Nat × Option FieldType)
def zo_get (kds : List zKD) (fl : zFL) (as : zAS) (idx : Nat) : Option zAS := match as.2.2.1, zlk fl idx with
  | a :: st, some f => (match kds[a.1 - 2]? with
    | some K => if (decide (2 ≤ a.1) && znn as.1 a && decide (K.1 = 0) && decide (K.2.1 = f.1)) = true then (match zrd kds as.1 as.2.2.2.1 (a.1 - 2) a.2.1 f.2.1 with
      | some x => some (x.1, as.2.1, x.2.2 :: st, x.2.1, as.2.2.2.2)
      | none => none) else none
    | none => none)
  | _, _ => none
def zo_put (kds : List zKD) (fl : zFL) (eff : List (Nat × Nat × Nat)) (as : zAS) (idx : Nat) : Option zAS := match as.2.2.1, zlk fl idx with
  | v :: a :: st, some f => (match kds[a.1 - 2]?, f.2.2 with
    | some K, some ty => if (decide (2 ≤ a.1) && znn as.1 a && decide (K.1 = 0) && decide (K.2.1 = f.1) && decide (f.2.1 < K.2.2.1) && zfty ty (zty K f.2.1) && zinE eff (a.1 - 2) f.2.1 f.2.1) = true then (match zcast as.1 (zty K f.2.1).1 v with
      | some w => if zfits as.1 (zty K f.2.1) w = true then some (as.1, as.2.1, st, zwr as.2.2.2.1 (a.1 - 2) a.2.1 f.2.1 w, as.2.2.2.2) else none
      | none => none) else none
    | _, _ => none)
  | _, _ => none
def zo_ald (kds : List zKD) (as : zAS) (form : Nat) (ts : List Nat) : Option zAS := match as.2.2.1 with
  | b :: a :: st => (match kds[a.1 - 2]?, ziv as.1 b with
    | some K, some q => if (decide (2 ≤ a.1) && znn as.1 a && decide (b.1 = 0) && decide (K.1 = form) && ts.contains K.2.1 && decide (0 ≤ q.1) && decide (q.2 < (K.2.2.1 : Int))) = true then (match zald kds as.1 as.2.2.2.1 (a.1 - 2) a.2.1 K q with
      | some x => if ((decide (form = 1) && decide (x.2.2.1 = 0)) || (decide (form = 2) && decide (2 ≤ x.2.2.1))) = true then some (x.1, as.2.1, x.2.2 :: st, x.2.1, as.2.2.2.2) else none
      | none => none) else none
    | _, _ => none)
  | _ => none
def zba (K : zKD) (lo hi : Int) : Bool := K.2.2.2.all (fun τ => decide (lo ≤ τ.2.1) && decide (τ.2.2 ≤ hi))
theorem z_ba {K : zKD} {lo hi : Int} (h : zba K lo hi = true) (h1 : lo ≤ 0) (h2 : -1 ≤ hi) (j : Nat) : lo ≤ (zty K j).2.1 ∧ (zty K j).2.2 ≤ hi := by
  unfold zty
  rw [List.getD_eq_getElem?_getD]
  cases hq : K.2.2.2[j % K.2.2.2.length]? with
  | none => exact ⟨h1, h2⟩
  | some τ =>
    have := List.all_eq_true.mp h τ (List.mem_of_getElem? hq)
    simpa using this
def zo_ast (kds : List zKD) (eff : List (Nat × Nat × Nat)) (as : zAS) (ts : List Nat) : Option zAS := match as.2.2.1 with
  | v :: b :: a :: st => (match kds[a.1 - 2]?, ziv as.1 b with
    | some K, some q => if (decide (2 ≤ a.1) && znn as.1 a && decide (b.1 = 0) && decide (v.1 = 0) && decide (K.1 = 1) && ts.contains K.2.1 && decide (0 ≤ q.1) && decide (q.2 < (K.2.2.1 : Int)) && zfalm as.1 K v q.1.toNat q.2.toNat && zinE eff (a.1 - 2) q.1.toNat q.2.toNat && (decide (K.2.1 = 0) || (decide (K.2.1 = 1) && zba K (-128) 127) || (decide (K.2.1 = 2) && zba K 0 1))) = true then
        some (as.1, as.2.1, st, zwra as.2.2.2.1 (a.1 - 2) a.2.1 q v, as.2.2.2.2) else none
    | _, _ => none)
  | _ => none
def zo_len (kds : List zKD) (as : zAS) : Option zAS := match as.2.2.1 with
  | a :: st => (match kds[a.1 - 2]? with
    | some K => if (decide (2 ≤ a.1) && znn as.1 a && (decide (K.1 = 1) && decide (K.2.1 ≤ 2)) && decide (K.2.2.1 ≤ 2147483647) && decide (as.1[0]? = some (0, 0))) = true then some (as.1, as.2.1, (0, 0, (K.2.2.1 : Int)) :: st, as.2.2.2) else none
    | none => none)
  | _ => none
def zl64 : zIV := (-9223372036854775808, 9223372036854775807)
def zneg (q : zIV) : zIV := zfit (-q.2, -q.1)
def zisI (t : Nat) : Bool := decide (t = 0)
def zisL (t : Nat) : Bool := decide (t = 1)
def zisA (t : Nat) : Bool := decide (2 ≤ t)
/-- the state behind an instruction that goes straight on -/
def zstp (kds : List zKD) (fl : zFL) (cs : List (Nat × Int) × List (Nat × Int)) (eff : List (Nat × Nat × Nat)) (nL : Nat) (ins : Jvm.ClassFile.Instr) (as : zAS) : Option zAS := match ins with
  | .iconst n => zo_cst as 0 n (-1) 5
  | .bipush n => zo_cst as 0 n (-128) 127
  | .sipush n => zo_cst as 0 n (-32768) 32767
  | .ldc i => (match zlk cs.1 i with
    | some n => zo_cst as 0 n (-2147483648) 2147483647
    | none => none)
  | .ldc_w i => (match zlk cs.1 i with
    | some n => zo_cst as 0 n (-2147483648) 2147483647
    | none => none)
  | .ldc2_w i => (match zlk cs.2 i with
    | some n => zo_cst as 1 n (-9223372036854775808) 9223372036854775807
    | none => none)
  | .lconst n => zo_cst as 1 (n.val : Int) 0 1
  | .aconst_null => zo_cst as 2 (-1) (-1) (-1)
  | .iload i => zo_ld as i zisI
  | .iload_n k => zo_ld as k.val zisI
  | .aload i => zo_ld as i zisA
  | .aload_n k => zo_ld as k.val zisA
  | .lload i => zo_ld as i zisL
  | .lload_n k => zo_ld as k.val zisL
  | .istore i => zo_st as i nL zisI
  | .istore_n k => zo_st as k.val nL zisI
  | .astore i => zo_st as i nL zisA
  | .astore_n k => zo_st as k.val nL zisA
  | .lstore i => zo_st2 as i nL
  | .lstore_n k => zo_st2 as k.val nL
  | .iadd => zo_ari as 0
  | .isub => zo_ari as 1
  | .imul => zo_ari as 2
  | .idiv => zo_ari as 3
  | .irem => zo_ari as 4
  | .ishl => zo_ari as 5
  | .ishr => zo_ari as 6
  | .iand => zo_ari as 7
  | .ior => zo_ari as 8
  | .ixor => zo_ari as 9
  | .iushr => zo_f2 as 0 0 0 ztop
  | .ineg => zo_f1 as 0 0 zneg
  | .i2b => zo_f1 as 0 0 (fun _ => (-128, 127))
  | .i2l => zo_i2l as
  | .land => zo_f2 as 1 1 1 zl64
  | .lor => zo_f2 as 1 1 1 zl64
  | .lshl => zo_f2 as 1 0 1 zl64
  | .lshr => zo_f2 as 1 0 1 zl64
  | .iinc i n => zo_iinc as i n nL
  | .pop => zo_pop as
  | .dup => zo_dup as
  | .dup2 => zo_dup2 as
  | .getfield idx => zo_get kds fl as idx
  | .putfield idx => zo_put kds fl eff as idx
  | .iaload => zo_ald kds as 1 [0]
  | .baload => zo_ald kds as 1 [1, 2]
  | .aaload => zo_ald kds as 2 [3, 4, 5, 6]
  | .iastore => zo_ast kds eff as [0]
  | .bastore => zo_ast kds eff as [1, 2]
  | .arraylength => zo_len kds as
  | _ => none
/-- how long an instruction is -/
def zlen (ins : Jvm.ClassFile.Instr) : Nat := match ins with
  | .bipush _ => 2
  | .sipush _ => 3
  | .ldc _ => 2
  | .ldc2_w _ => 3
  | .ldc_w _ => 3
  | .iload _ => 2
  | .aload _ => 2
  | .lload _ => 2
  | .istore _ => 2
  | .astore _ => 2
  | .lstore _ => 2
  | .iinc _ _ => 3
  | .getfield _ => 3
  | .putfield _ => 3
  | .if_icmp _ _ => 3
  | .ifCond _ _ => 3
  | .ifnull _ => 3
  | .ifnonnull _ => 3
  | .goto _ => 3
  | .invokevirtual _ => 3
  | .invokestatic _ => 3
  | _ => 1
