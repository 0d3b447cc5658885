variable {η : zRn}
/-! loops: states at a head by the numbers of its locals -/
abbrev yI : Type := List Int → yH → Prop
def yvs : List (Nat × Nat) → yL → Option (List Int)
  | [], _ => some []
  | (i, t) :: r, loc => match yfind loc i with
    | some a => if a.1 = t then (yvs r loc).map (fun vs => a.2 :: vs) else none
    | none => none
def ycan : List (Nat × Nat) → List Int → yL
  | (i, t) :: r, v :: vs => (i, (t, v)) :: ycan r vs
  | _, _ => []
def yJ (ls : List (Nat × Nat)) (I : yI) : yP := fun loc st h => st = [] ∧ ∃ vs, yvs ls loc = some vs ∧ I vs h
def yLn (J : Nat → yI) (n : Nat) : yI := fun vs h => ∃ k, k < n ∧ J k vs h
def yEn (J : Nat → yI) : yI := fun vs h => ∃ n, J n vs h
theorem y_vsm {loc : yL} : ∀ {ls : List (Nat × Nat)} {vs : List Int}, yvs ls loc = some vs → ∀ q ∈ ycan ls vs, q ∈ loc := by
  intro ls
  induction ls with
  | nil =>
    intro vs h q hq
    simp [ycan] at hq
  | cons p r ih =>
    obtain ⟨i, t⟩ := p
    intro vs h q hq
    unfold yvs at h
    split at h
    · rename_i a ha
      split at h
      · rename_i ht
        cases hr : yvs r loc with
        | none => rw [hr] at h; cases h
        | some vs' =>
          rw [hr] at h
          simp only [Option.map_some, Option.some.injEq] at h
          subst h
          simp only [ycan] at hq
          rcases List.mem_cons.mp hq with rfl | hq
          · have hm := y_fm ha
            rw [← ht]
            exact hm
          · exact ih hr q hq
      · cases h
    · cases h
section YLP
variable {kds : List zKD} {D : va_G} {cl : List vw_C} {cy : Nat → ClassId} {L : List Nat} {Θ : Nat → Option Nat} {nL : Nat}
variable {p : Program} {l : Launch} {e : Env} {R : Room} {s : State} {m : MethodId} {args : Array Value} {below : List Frame} {meth : Method} {c : Code} {Q : State → Prop}
variable {pc : Nat} {P : yP} {ls0 : List (Nat × Nat)}
theorem yr_J (k : yGo η kds D cl cy L Θ nL p l e R s m args below meth c Q pc P) : yGo η kds D cl cy L Θ nL p l e R s m args below meth c Q pc (yJ ls0 (fun vs h => P (ycan ls0 vs) [] h)) := by
  intro loc st h H locs ls hp g
  obtain ⟨rfl, vs, hv, hp⟩ := hp
  refine k (ycan ls0 vs) [] h H locs ls hp ⟨fun q hq => g.1 q (y_vsm hv q hq), ⟨g.2.1.1, g.2.1.2.1, fun q hq => ?_⟩, g.2.2.1, g.2.2.2⟩
  obtain ⟨q', hq', rfl⟩ := List.mem_map.mp hq
  exact g.2.1.2.2 _ (List.mem_map.mpr ⟨q', y_vsm hv q' hq', rfl⟩)
theorem y_J1 {J : yI} (o : ∀ vs h, J vs h → P (ycan ls0 vs) [] h) (k : yGo η kds D cl cy L Θ nL p l e R s m args below meth c Q pc P) : yGo η kds D cl cy L Θ nL p l e R s m args below meth c Q pc (yJ ls0 J) :=
  yr_mono (fun _ _ _ hp => ⟨hp.1, hp.2.choose, hp.2.choose_spec.1, o _ _ hp.2.choose_spec.2⟩) (yr_J k)
theorem y_Jl {J : Nat → yI} {n : Nat} (h : ∀ k, k < n → yGo η kds D cl cy L Θ nL p l e R s m args below meth c Q pc (yJ ls0 (J k))) : yGo η kds D cl cy L Θ nL p l e R s m args below meth c Q pc (yJ ls0 (yLn J n)) := by
  intro loc st h' H locs ls hp g
  obtain ⟨h1, vs, hv, k, hk, hp⟩ := hp
  exact h k hk loc st h' H locs ls ⟨h1, vs, hv, hp⟩ g
theorem y_Je {J : Nat → yI} (h : ∀ k, yGo η kds D cl cy L Θ nL p l e R s m args below meth c Q pc (yJ ls0 (J k))) : yGo η kds D cl cy L Θ nL p l e R s m args below meth c Q pc (yJ ls0 (yEn J)) := by
  intro loc st h' H locs ls hp g
  obtain ⟨h1, vs, hv, k, hp⟩ := hp
  exact h k loc st h' H locs ls ⟨h1, vs, hv, hp⟩ g
end YLP
/-- a method with loops keeps its contract -/
theorem y_metL {kds : List zKD} {cl : List vw_C} {TW : List Cond} {KP : zKPt} {tyf : (Nat → ClassId) → List (ClassId × FieldType)} {l : Launch} (hKP : zKPok cl tyf KP) (hg : zgoodW TW) (y : yY) (fr lo : Nat) (tags : List Nat) (B : yB) (hy : plainName y.1.cls = true) (hw : ywd tags ≤ y.2.2.1)
    (hgo : ∀ (η : zRn) (D : va_G) (cy : Nat → ClassId) (L : List Nat) (Θ : Nat → Option Nat) (p : Program) (e : Env) (R : Room) (s : State) (m : MethodId) (args : Array Value) (below : List Frame) (meth : Method) (c : Code) (Q : State → Prop) (Qr : yQt) (ys : List Int) (h : yH), B Θ ys h Qr →
      yCz η kds D cl cy L Θ y.2.2.1 p l e R s m args below meth c Q y.2.1 (tyf cy) y.1.cls TW KP tyf y.2.2.2 fr lo Qr → yGo η kds D cl cy L Θ y.2.2.1 p l e R s m args below meth c Q 0 (fun loc st h' => loc = yar 0 (tags.zip ys) ∧ st = [] ∧ h' = h)) : yMet kds cl TW KP l y fr lo tags B :=
  y_met hKP hg y fr lo tags B (fun Θ xs h Qr loc st h' => B Θ (xs.map Prod.snd) h Qr ∧ loc = yar 0 xs ∧ st = [] ∧ h' = h) hy hw (fun Θ xs h Qr _ _ hB => ⟨hB, rfl, rfl, rfl⟩)
    (fun η D cy L Θ p e R s m args below meth c Q xs h Qr _ ht Z => by
      intro loc st h' H locs ls hp g
      exact hgo η D cy L Θ p e R s m args below meth c Q Qr (xs.map Prod.snd) h hp.1 Z loc st h' H locs ls ⟨by rw [y_zip ht]; exact hp.2.1, hp.2.2.1, hp.2.2.2⟩ g)
/-! how walks are gone through -/
theorem y_ite {c : Prop} [Decidable c] {a b : Prop} (h1 : c → a) (h2 : ¬ c → b) : if c then a else b := by
  by_cases h : c
  · rw [if_pos h]; exact h1 h
  · rw [if_neg h]; exact h2 h
theorem y_n1 {t : Nat} (x : Int) (h : t ≠ 1) : ¬ ((t, x) : yV).1 = 1 := h
