variable {η : zRn}
/-! the checker -/
/-- a contract: name, code, locals, what it returns; frames and locals' words; values and state at its start; its outcomes; what it may change -/
abbrev zCT : Type := (MethodName × ByteArray × Nat × Option FieldType) × (Nat × Nat) × (List zAV × zAS) × List zAS × List (Nat × Nat × Nat)
/-- a method as the checker wants it: instructions; fields; constants; contracts by place; own steps by place; marked states; places where the top's symbol is split -/
abbrev zMD : Type := List (Nat × Jvm.ClassFile.Instr × Nat) × zFL × (List (Nat × Int) × List (Nat × Int)) × List (Nat × List zCT) × List (Nat × Nat × (zAS → Option zAS)) × List (Nat × zAS × zRK) × List Nat
def zad (sub : zSB) (a' a : zAV) : zSB := match zsb sub a'.2.1 with
  | some _ => sub
  | none => (a'.2.1, a.2.1, a.2.2 - a'.2.2) :: sub
def zads : zSB → List zAV → List zAV → zSB
  | sub, a' :: r', a :: r => zads (zad sub a' a) r' r
  | sub, _, _ => sub
def zadl (loc : List (Nat × zAV)) : zSB → List (Nat × zAV) → zSB
  | sub, (i, a') :: r => zadl loc (match zfind loc i with
      | some a => zad sub a' a
      | none => sub) r
  | sub, [] => sub
def zadv (ov : List zOV) : zSB → List zOV → zSB
  | sub, ((k, j), sl, v') :: r => zadv ov (match zsb sub j with
      | some x => (match zlook ov k x.1 sl with
        | some v => zad sub v' v
        | none => sub)
      | none => sub) r
  | sub, [] => sub
def zid : Nat → zSB
  | 0 => []
  | n + 1 => (n, n, 0) :: zid n
/-- the map of a target's symbols -/
def zbs (n0 : Nat) (as tg : zAS) : zSB := zadv as.2.2.2.1 (zads (zadl as.2.1 (zid n0) tg.2.1) tg.2.2.1 as.2.2.1) tg.2.2.2.1
/-- an AV is there that says: symbol i is a reference of kind k -/
def zevd (env : List zIV) (st : List zAV) (ov : List zOV) (k i : Nat) : Bool := (st.any (fun a => decide (a = (k + 2, i, 0))) || ov.any (fun o => decide (o.2.2 = (k + 2, i, 0)))) && (match env[i]? with
  | some q => decide (0 ≤ q.1)
  | none => false)
/-- slots that a contract asks for are read -/
def ztch (kds : List zKD) (st : List zAV) : List zOV → List zIV → List zOV → zSB → List zIV × List zOV × zSB
  | [], env, ov, sub => (env, ov, sub)
  | ((k, j), sl, v') :: r, env, ov, sub => match zsb sub j with
    | some x => if (decide (x.2 = 0) && zevd env st ov k x.1) = true then (match zrd kds env ov k x.1 sl with
        | some y => ztch kds st r y.1 y.2.1 (zad sub v' y.2.2)
        | none => (env, ov, sub)) else (env, ov, sub)
    | none => (env, ov, sub)
def zemp (env : List zIV) : Bool := env.any (fun q => decide (q.2 < q.1))
/-- a call by a contract -/
def zcal1 (eff : List (Nat × Nat × Nat)) (as : zAS) (ac st : List zAV) (C : zCT) (sub : zSB) (K : zAS → Bool) : Bool :=
  zmt 0 (as.1, as.2.1, ac, as.2.2.2.1, as.2.2.2.2) (C.2.2.1.2.1, [], C.2.2.1.1, C.2.2.1.2.2.2.2.1, C.2.2.1.2.2.2.2.2) sub && sub.all (fun q => decide (q.2.1 < as.1.length)) && C.2.2.2.2.all (fun q => zinE eff q.1 q.2.1 q.2.2) && C.2.2.2.1.all (fun o => decide (C.2.2.1.2.1.length ≤ o.1.length)) &&
  decide ((st.map (fun a => if a.1 = 1 then 2 else 1)).sum ≤ 8) && C.2.2.2.1.all (fun out => match zaft as st sub C.2.2.1.2.1.length C.2.2.2.2 out with
    | some as' => K as'
    | none => false)
def zcal2 (eff : List (Nat × Nat × Nat)) (as : zAS) (ac st : List zAV) (C : zCT) (t : List zIV × List zOV × zSB) (K : zAS → Bool) : Bool := zcal1 eff (t.1, as.2.1, as.2.2.1, t.2.1, as.2.2.2.2) ac st C t.2.2 K
def zcal (kds : List zKD) (eff : List (Nat × Nat × Nat)) (as : zAS) (C : zCT) (K : zAS → Bool) : Bool :=
  zcal2 eff as (as.2.2.1.take C.2.2.1.1.length).reverse (as.2.2.1.drop C.2.2.1.1.length) C (ztch kds as.2.2.1 C.2.2.1.2.2.2.2.1 as.1 as.2.2.2.1 (zads [(0, 0, 0)] C.2.2.1.1 (as.2.2.1.take C.2.2.1.1.length).reverse)) K
/-- a branch -/
def zob (o : Option (List zIV)) (as : zAS) (st : List zAV) (K : zAS → Bool) : Bool := match o with
  | some env' => K (env', as.2.1, st, as.2.2.2)
  | none => true
def ztg (pc : Nat) (off : Int) (K : Nat → zAS → Bool) (as : zAS) : Bool := decide (0 ≤ (pc : Int) + off) && K ((pc : Int) + off).toNat as
/-- the cases of a switch from the i-th on -/
def zsw (pc : Nat) (lo : Int) (as : zAS) (a : zAV) (st : List zAV) (K : Nat → zAS → Bool) : Nat → List Int → Bool
  | _, [] => true
  | i, off :: r => zob (zbr 4 as.1 a (0, 0, lo + (i : Int))) as st (ztg pc off K) && zsw pc lo as a st K (i + 1) r
/-- an outcome is reached -/
def zrt (n0 : Nat) (outs : List zAS) (as : zAS) : Bool := outs.any (fun o => zmt n0 as (o.1, [], o.2.2.1, o.2.2.2.1, o.2.2.2.2) (zbs n0 as (o.1, [], o.2.2.1, o.2.2.2.1, o.2.2.2.2)) && decide (n0 ≤ o.1.length))
def zex (kds : List zKD) (nL : Nat) (eff : List (Nat × Nat × Nat)) (ret : Option FieldType) (outs : List zAS) (n0 : Nat) (M : zMD) (K : Nat → zAS → Bool) (pc : Nat) (as : zAS) : Bool :=
  match zlk M.1 pc with
  | none => false
  | some (ins, len) =>
    match zlk M.2.2.2.2.1 pc with
    | some f => (match f.2 as with
      | some as' => K (pc + f.1) as'
      | none => false)
    | none =>
      match ins with
      | .goto off => decide (len = 3) && ztg pc off K as
      | .if_icmp cd off => (match as.2.2.1 with
        | b :: a :: st => decide (len = 3) && decide (a.1 = 0) && decide (b.1 = 0) && decide (0 ≤ (pc : Int) + off) && zob (zbr (zcn cd) as.1 a b) as st (ztg pc off K) && zob (zbr (znot (zcn cd)) as.1 a b) as st (K (pc + 3))
        | _ => false)
      | .ifCond cd off => (match as.2.2.1 with
        | a :: st => decide (len = 3) && decide (a.1 = 0) && decide (as.1[0]? = some (0, 0)) && decide (0 ≤ (pc : Int) + off) && zob (zbr (zcn cd) as.1 a (0, 0, 0)) as st (ztg pc off K) && zob (zbr (znot (zcn cd)) as.1 a (0, 0, 0)) as st (K (pc + 3))
        | _ => false)
      | .ifnull off => (match as.2.2.1 with
        | a :: st => decide (len = 3) && decide (2 ≤ a.1) && decide (as.1[0]? = some (0, 0)) && decide (0 ≤ (pc : Int) + off) && zob (zbr 0 as.1 a (0, 0, 0)) as st (ztg pc off K) && zob (zbr 1 as.1 a (0, 0, 0)) as st (K (pc + 3))
        | _ => false)
      | .ifnonnull off => (match as.2.2.1 with
        | a :: st => decide (len = 3) && decide (2 ≤ a.1) && decide (as.1[0]? = some (0, 0)) && decide (0 ≤ (pc : Int) + off) && zob (zbr 1 as.1 a (0, 0, 0)) as st (ztg pc off K) && zob (zbr 0 as.1 a (0, 0, 0)) as st (K (pc + 3))
        | _ => false)
      | .lcmp => (match as.2.2.1, zlk M.1 (pc + 1) with
        | b :: a :: st, some (.ifCond cd off, ln) => decide (len = 1) && decide (ln = 3) && decide (a.1 = 1) && decide (b.1 = 1) && decide (0 ≤ ((pc + 1 : Nat) : Int) + off) && zob (zbr (zcn cd) as.1 a b) as st (ztg (pc + 1) off K) && zob (zbr (znot (zcn cd)) as.1 a b) as st (K (pc + 4))
        | _, _ => false)
      | .tableswitch dflt lo hi offs => (match as.2.2.1 with
        | a :: st => decide (a.1 = 0) && decide (as.1[0]? = some (0, 0)) && decide (hi - lo + 1 = (offs.toList.length : Int)) && decide (0 ≤ (pc : Int) + dflt) && offs.toList.all (fun o => decide (0 ≤ (pc : Int) + o)) && zsw pc lo as a st K 0 offs.toList && zob (zbr 0 as.1 a (0, 0, lo)) as st (ztg pc dflt K) && zob (zbr 2 as.1 a (0, 0, hi)) as st (ztg pc dflt K)
        | _ => false)
      | .lookupswitch dflt ps => (match as.2.2.1 with
        | a :: st => decide (a.1 = 0) && decide (as.1[0]? = some (0, 0)) && decide (0 ≤ (pc : Int) + dflt) && (ps.toList.zip (ps.toList.drop 1)).all (fun (a, next) => a.1 < next.1) && ps.toList.all (fun o => decide (0 ≤ (pc : Int) + o.2) && zob (zbr 4 as.1 a (0, 0, o.1)) as st (ztg pc o.2 K)) && ztg pc dflt K (as.1, as.2.1, st, as.2.2.2)
        | _ => false)
      | .ireturn => (match as.2.2.1 with
        | [a] => decide (len = 1) && decide (a.1 = 0) && (decide (ret = some .int) || (decide (ret = some .boolean) && zfits as.1 (0, 0, 1) a)) && zrt n0 outs as
        | _ => false)
      | .areturn => (match as.2.2.1, ret with
        | [a], some (.object _) => decide (len = 1) && decide (2 ≤ a.1) && zrt n0 outs as
        | _, _ => false)
      | .return_ => (match as.2.2.1 with
        | [] => decide (len = 1) && decide (ret = none) && zrt n0 outs as
        | _ => false)
      | .invokevirtual _ => (match zlk M.2.2.2.1 pc with
        | some Cs => decide (len = 3) && Cs.any (fun C => zcal kds eff as C (K (pc + 3)))
        | none => false)
      | .invokestatic _ => (match zlk M.2.2.2.1 pc with
        | some Cs => decide (len = 3) && Cs.any (fun C => zcal kds eff as C (K (pc + 3)))
        | none => false)
      | ins => decide (len = zlen ins) && (match zstp kds M.2.1 M.2.2.1 eff nL ins as with
        | some as' => K (pc + len) as'
        | none => false)
/-- the values of a symbol, one by one -/
def zspl (as : zAS) (i : Nat) (K : zAS → Bool) : Nat → Int → Bool
  | 0, _ => true
  | n + 1, v => K (as.1.set i (v, v), as.2.1, as.2.2.1, as.2.2.2) && zspl as i K n (v + 1)
def zexs (kds : List zKD) (nL : Nat) (eff : List (Nat × Nat × Nat)) (ret : Option FieldType) (outs : List zAS) (n0 : Nat) (M : zMD) (K : Nat → zAS → Bool) (pc : Nat) (as : zAS) : Bool :=
  if M.2.2.2.2.2.2.contains pc = true then (match as.2.2.1 with
    | a :: _ => (match as.1[a.2.1]? with
      | some q => if q.2 - q.1 ≤ 4096 then zspl as a.2.1 (zex kds nL eff ret outs n0 M K pc) (q.2 - q.1 + 1).toNat q.1
        else zex kds nL eff ret outs n0 M K pc (as.1.set a.2.1 (q.1, q.2 - 1), as.2.1, as.2.2.1, as.2.2.2) && zex kds nL eff ret outs n0 M K pc (as.1.set a.2.1 (q.2, q.2), as.2.1, as.2.2.1, as.2.2.2)
      | none => false)
    | [] => false)
  else zex kds nL eff ret outs n0 M K pc as
def zfor (n0 : Nat) (rk : zRK) (as : zAS) (t : zAS × zRK) (sub : zSB) : Bool := zmt n0 as t.1 sub && decide (n0 ≤ t.1.1.length) && zless as.1 as.2.2.2.2 rk t.2 sub
/-- the locals' bounds fit: asked first, for it is cheap -/
def zqk (as tg : zAS) : Bool := tg.2.1.all (fun q => match zfind as.2.1 q.1 with
  | some a => (match ziv as.1 a, ziv tg.1 q.2 with
    | some x, some y => decide (y.1 ≤ x.1) && decide (x.2 ≤ y.2)
    | _, _ => true)
  | none => false)
def zchk (kds : List zKD) (nL : Nat) (eff : List (Nat × Nat × Nat)) (ret : Option FieldType) (outs : List zAS) (n0 : Nat) (M : zMD) (rk : zRK) : Nat → Nat → zAS → Bool
  | 0, _, _ => false
  | n + 1, pc, as => if zemp as.1 = true then true
    else match M.2.2.2.2.2.1.filter (fun t => decide (t.1 = pc)) with
      | [] => zexs kds nL eff ret outs n0 M (zchk kds nL eff ret outs n0 M rk n) pc as
      | ts => ts.any (fun t => zqk as t.2.1 && zfor n0 rk as t.2 (zbs n0 as t.2.1))
/-- a method: its start, and every marked state -/
def zmeth (kds : List zKD) (C : zCT) (M : zMD) (fuel : Nat) (B : Int) : Bool :=
  zchk kds C.1.2.2.1 C.2.2.2.2 C.1.2.2.2 C.2.2.2.1 C.2.2.1.2.1.length M (B, []) fuel 0 (C.2.2.1.2.1, C.2.2.1.2.2.1, [], C.2.2.1.2.2.2.2.1, C.2.2.1.2.2.2.2.2) &&
  M.2.2.2.2.2.1.all (fun t => zpos t.2.1.1 t.2.2 && t.2.2.2.all (fun q => decide (q.1 < t.2.1.1.length)) && zexs kds C.1.2.2.1 C.2.2.2.2 C.1.2.2.2 C.2.2.2.1 C.2.2.1.2.1.length M (zchk kds C.1.2.2.1 C.2.2.2.2 C.1.2.2.2 C.2.2.2.1 C.2.2.1.2.1.length M t.2.2 fuel) t.1 t.2.1)
