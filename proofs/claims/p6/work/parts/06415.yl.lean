variable {η : zRn}
/-! loops: states at a head by the numbers of its locals -/
def yvs : List (Nat × Nat) → yL → Option (List Int)
  | [], _ => some []
  | (i, t) :: r, loc => match yfind loc i with
    | some a => if a.1 = t then (yvs r loc).map (fun vs => a.2 :: vs) else none
    | none => none
def ycan : List (Nat × Nat) → List Int → yL
  | (i, t) :: r, v :: vs => (i, (t, v)) :: ycan r vs
  | _, _ => []
theorem y_vsm {loc : yL} : ∀ {ls : List (Nat × Nat)} {vs : List Int}, yvs ls loc = some vs → ∀ q ∈ ycan ls vs, q ∈ loc := by
  intro ls
  induction ls with
  | nil =>
    intro vs h q hq
    simp [ycan] at hq
  | cons p r ih =>
    obtain ⟨i, t⟩ := p
    intro vs h q hq
    unfold yvs at h
    split at h
    · rename_i a ha
      split at h
      · rename_i ht
        cases hr : yvs r loc with
        | none => rw [hr] at h; cases h
        | some vs' =>
          rw [hr] at h
          simp only [Option.map_some, Option.some.injEq] at h
          subst h
          simp only [ycan] at hq
          rcases List.mem_cons.mp hq with rfl | hq
          · have hm := y_fm ha
            rw [← ht]
            exact hm
          · exact ih hr q hq
      · cases h
    · cases h
section YLP
variable {kds : List zKD} {D : va_G} {cl : List vw_C} {cy : Nat → ClassId} {L : List Nat} {Θ : Nat → Option Nat} {nL : Nat}
variable {p : Program} {l : Launch} {e : Env} {R : Room} {s : State} {m : MethodId} {args : Array Value} {below : List Frame} {meth : Method} {c : Code} {Q : State → Prop}
variable {pc : Nat} {P : yP} {ls0 : List (Nat × Nat)}
end YLP
/-! how walks are gone through -/
