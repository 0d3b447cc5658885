variable {η : zRn}
/-! from every state of which an abstract state says the truth, the machine comes to the end -/
section ZGO
variable {kds : List zKD} {D : va_G} {cl : List vw_C} {cy : Nat → ClassId} {L : List Nat} {Θ : Nat → Option Nat} {h0 : Nat → Nat → Int} {eff : List (Nat × Nat × Nat)} {A : Nat → Prop} {H0 : Heap} {nL : Nat}
variable {p : Program} {l : Launch} {e : Env} {R : Room} {s : State} {m : MethodId} {args : Array Value} {below : List Frame} {meth : Method} {c : Code} {Q : State → Prop}
def zGo (η : zRn) (kds : List zKD) (D : va_G) (cl : List vw_C) (cy : Nat → ClassId) (L : List Nat) (Θ : Nat → Option Nat) (h0 : Nat → Nat → Int) (eff : List (Nat × Nat × Nat)) (A : Nat → Prop) (H0 : Heap) (nL : Nat)
    (p : Program) (l : Launch) (e : Env) (R : Room) (s : State) (m : MethodId) (args : Array Value) (below : List Frame) (meth : Method) (c : Code) (Q : State → Prop) (σA : List Int) (pc : Nat) (as : zAS) : Prop :=
  ∀ (τ : List Int) (h : Nat → Nat → Int) (H : Heap) (locs : List Loc) (ls : Array Slot), zG η kds D cl cy L Θ h0 eff A H0 nL as (σA ++ τ) h H locs ls →
    W p l e R s m args below meth c H locs 0 0 Q (F0 m pc ls (as.2.2.1.map (zvo η (σA ++ τ))))
theorem zG_stk {as : zAS} {σ : List Int} {h : Nat → Nat → Int} {H : Heap} {locs : List Loc} {ls : Array Slot} (g : zG η kds D cl cy L Θ h0 eff A H0 nL as σ h H locs ls) {st : List zAV} (hst : ∀ a ∈ st, zga Θ σ a) :
    zG η kds D cl cy L Θ h0 eff A H0 nL (as.1, as.2.1, st, as.2.2.2) σ h H locs ls := by
  obtain ⟨gE, gL, hl, gS, gV, gR, gH, gF, gX⟩ := g
  exact ⟨gE, gL, hl, hst, gV, gR, gH, gF, gX⟩
theorem zG_push {as : zAS} {σ : List Int} {h : Nat → Nat → Int} {H : Heap} {locs : List Loc} {ls : Array Slot} (g : zG η kds D cl cy L Θ h0 eff A H0 nL as σ h H locs ls) {st : List zAV} (hst : ∀ a ∈ st, zga Θ σ a)
    {q : zIV} {t : Nat} {x : Int} (h1 : q.1 ≤ x) (h2 : x ≤ q.2) (ht : zok Θ t x) :
    zG η kds D cl cy L Θ h0 eff A H0 nL (as.1 ++ [q], as.2.1, (t, as.1.length, 0) :: st, as.2.2.2) (σ ++ [x]) h H locs ls := by
  obtain ⟨gE, gL, hl, gS, gV, gR, gH, gF, gX⟩ := g
  refine ⟨z_ge gE h1 h2, fun q hq => z_ga (gL q hq), z_lv gL hl, ?_, z_gv gV, z_gr gR, gH, gF, gX⟩
  intro a ha
  rcases List.mem_cons.mp ha with rfl | ha
  · refine ⟨z_len gE, ?_⟩
    have : zev (σ ++ [x]) (t, as.1.length, 0) = x := by
      unfold zev
      simp only
      rw [z_gn gE]; omega
    rw [this]
    exact ht
  · exact z_ga (hst a ha)
theorem z_vn {as : zAS} {σ : List Int} {t : Nat} {x : Int} (gE : zge σ as.1) : zvo η (σ ++ [x]) (t, as.1.length, 0) = zdec η t x := by
  unfold zvo zev
  simp only
  rw [z_gn gE]
  simp
theorem zgo_push {σA : List Int} {pc pc' : Nat} {as : zAS} {st : List zAV} {q : zIV} {t : Nat}
    (k : zGo η kds D cl cy L Θ h0 eff A H0 nL p l e R s m args below meth c Q σA pc' (as.1 ++ [q], as.2.1, (t, as.1.length, 0) :: st, as.2.2.2))
    (hh : ∀ (σ : List Int) (h : Nat → Nat → Int) (H : Heap) (locs : List Loc) (ls : Array Slot), zG η kds D cl cy L Θ h0 eff A H0 nL as σ h H locs ls → (∀ a ∈ st, zga Θ σ a) ∧ ∃ x : Int, q.1 ≤ x ∧ x ≤ q.2 ∧ zok Θ t x ∧
      (W p l e R s m args below meth c H locs 0 0 Q (F0 m pc' ls (zdec η t x :: st.map (zvo η σ))) → W p l e R s m args below meth c H locs 0 0 Q (F0 m pc ls (as.2.2.1.map (zvo η σ))))) :
    zGo η kds D cl cy L Θ h0 eff A H0 nL p l e R s m args below meth c Q σA pc as := by
  intro τ h H locs ls g
  obtain ⟨hst, x, h1, h2, h3, hw⟩ := hh _ h H locs ls g
  apply hw
  have g' := zG_push g hst h1 h2 h3
  rw [List.append_assoc] at g'
  have w := k (τ ++ [x]) h H locs ls g'
  simp only [List.map_cons, ← List.append_assoc] at w
  rw [z_vn g.1, z_st hst] at w
  exact w
theorem zgo_stk {σA : List Int} {pc pc' : Nat} {as : zAS} {st : List zAV}
    (k : zGo η kds D cl cy L Θ h0 eff A H0 nL p l e R s m args below meth c Q σA pc' (as.1, as.2.1, st, as.2.2.2))
    (hh : ∀ (σ : List Int) (h : Nat → Nat → Int) (H : Heap) (locs : List Loc) (ls : Array Slot), zG η kds D cl cy L Θ h0 eff A H0 nL as σ h H locs ls → (∀ a ∈ st, zga Θ σ a) ∧
      (W p l e R s m args below meth c H locs 0 0 Q (F0 m pc' ls (st.map (zvo η σ))) → W p l e R s m args below meth c H locs 0 0 Q (F0 m pc ls (as.2.2.1.map (zvo η σ))))) :
    zGo η kds D cl cy L Θ h0 eff A H0 nL p l e R s m args below meth c Q σA pc as := by
  intro τ h H locs ls g
  obtain ⟨hst, hw⟩ := hh _ h H locs ls g
  exact hw (k τ h H locs ls (zG_stk g hst))
/-- locals -/
def zfind : List (Nat × zAV) → Nat → Option zAV
  | [], _ => none
  | (j, a) :: r, i => if j = i then some a else zfind r i
theorem z_find {loc : List (Nat × zAV)} {i : Nat} {a : zAV} (h : zfind loc i = some a) : (i, a) ∈ loc := by
  induction loc with
  | nil => cases h
  | cons q r ih =>
    obtain ⟨j, b⟩ := q
    unfold zfind at h
    split at h
    · rename_i e
      cases h
      subst e
      exact List.mem_cons_self
    · exact List.mem_cons_of_mem _ (ih h)
theorem z_at {ls : Array Slot} {σ : List Int} {loc : List (Nat × zAV)} {i : Nat} {a : zAV} (hl : lv_has ls nL (loc.map fun q => (q.1, zvo η σ q.2))) (h : zfind loc i = some a) : ls[i]? = some (.val (zvo η σ a)) :=
  hl.2.2 (i, zvo η σ a) (List.mem_map.mpr ⟨(i, a), z_find h, rfl⟩)
/-- a local is written (i), of one word or (two) of two -/
def zput (loc : List (Nat × zAV)) (i : Nat) (a : zAV) : List (Nat × zAV) := (i, a) :: loc.filter (fun q => !(q.1 == i) && !(q.1 + 1 == i && q.2.1 == 1))
def zput2 (loc : List (Nat × zAV)) (i : Nat) (a : zAV) : List (Nat × zAV) := (i, a) :: loc.filter (fun q => !(q.1 == i) && (!(q.1 == i + 1) && !(q.1 + 1 == i && q.2.1 == 1)))
theorem z_cat (t : Nat) (x : Int) : ((zdec η t x).category == 2) = (t == 1) := by
  match t with
  | 0 => rfl
  | 1 => rfl
  | t + 2 =>
    have : (zdec η (t + 2) x).category = 1 := by
      show (va_rf (zrf η x)).category = 1
      cases zrf η x <;> rfl
    rw [this]
    simp
theorem z_cat1 {t : Nat} (x : Int) (h : t ≠ 1) : (zdec η t x).category = 1 := by
  match t, h with
  | 0, _ => rfl
  | 1, h => exact absurd rfl h
  | t + 2, _ =>
    show (va_rf (zrf η x)).category = 1
    cases zrf η x <;> rfl
theorem z_put {σ : List Int} {loc : List (Nat × zAV)} {i : Nat} {a : zAV} : (i, zvo η σ a) :: (loc.map fun q => (q.1, zvo η σ q.2)).filter (fun q => !(q.1 == i) && !(q.1 + 1 == i && q.2.category == 2)) = (zput loc i a).map fun q => (q.1, zvo η σ q.2) := by
  unfold zput
  rw [List.map_cons, List.filter_map]
  congr 2
  apply List.filter_congr
  intro q _
  simp only [Function.comp]
  unfold zvo
  rw [z_cat]
theorem z_put2 {σ : List Int} {loc : List (Nat × zAV)} {i : Nat} {a : zAV} : (i, zvo η σ a) :: (loc.map fun q => (q.1, zvo η σ q.2)).filter (fun q => !(q.1 == i) && (!(q.1 == i + 1) && !(q.1 + 1 == i && q.2.category == 2))) = (zput2 loc i a).map fun q => (q.1, zvo η σ q.2) := by
  unfold zput2
  rw [List.map_cons, List.filter_map]
  congr 2
  apply List.filter_congr
  intro q _
  simp only [Function.comp]
  unfold zvo
  rw [z_cat]
theorem z_pm {P : zAV → Prop} {loc : List (Nat × zAV)} {i : Nat} {a : zAV} (h : ∀ q ∈ loc, P q.2) (ha : P a) : ∀ q ∈ zput loc i a, P q.2 := by
  intro q hq
  rcases List.mem_cons.mp hq with rfl | hq
  · exact ha
  · exact h q (List.mem_filter.mp hq).1
theorem z_pm2 {P : zAV → Prop} {loc : List (Nat × zAV)} {i : Nat} {a : zAV} (h : ∀ q ∈ loc, P q.2) (ha : P a) : ∀ q ∈ zput2 loc i a, P q.2 := by
  intro q hq
  rcases List.mem_cons.mp hq with rfl | hq
  · exact ha
  · exact h q (List.mem_filter.mp hq).1
/-- a value that lies in the locals comes on the stack -/
theorem zgo_ld {cc : ByteArray} {pc len i : Nat} {as : zAS} {a : zAV} {σA : List Int} (hf : zfind as.2.1 i = some a)
    (hw : ∀ (v : Value) (H : Heap) (locs : List Loc) (ls : Array Slot) (rest : List Value), (∃ σ : List Int, zga Θ σ a ∧ v = zvo η σ a) → ls[i]? = some (.val v) → W p l e R s m args below meth c H locs 0 0 Q (F0 m (pc + len) ls (v :: rest)) → W p l e R s m args below meth c H locs 0 0 Q (F0 m pc ls rest))
    (k : zGo η kds D cl cy L Θ h0 eff A H0 nL p l e R s m args below meth c Q σA (pc + len) (as.1, as.2.1, a :: as.2.2.1, as.2.2.2)) :
    zGo η kds D cl cy L Θ h0 eff A H0 nL p l e R s m args below meth c Q σA pc as := by
  refine zgo_stk k ?_
  intro σ h H locs ls g
  obtain ⟨gE, gL, hl, gS, gV, gR, gH, gF, gX⟩ := g
  have ha : zga Θ σ a := gL (i, a) (z_find hf)
  refine ⟨fun b hb => ?_, fun w => ?_⟩
  · rcases List.mem_cons.mp hb with rfl | hb
    · exact ha
    · exact gS b hb
  · exact hw _ H locs ls _ ⟨σ, ha, rfl⟩ (z_at hl hf) w
/-- the top of the stack goes into a local -/
theorem zgo_sto {cc : ByteArray} {pc len i : Nat} {as : zAS} {a : zAV} {st : List zAV} {σA : List Int} (hs : as.2.2.1 = a :: st)
    (hw : ∀ (v : Value) (H : Heap) (locs : List Loc) (ls : Array Slot) (rest : List Value) (lv : List (Nat × Value)), (∃ σ : List Int, zga Θ σ a ∧ v = zvo η σ a) → lv_has ls nL lv →
      (∀ ls' : Array Slot, lv_has ls' nL ((i, v) :: lv.filter (fun q => !(q.1 == i) && !(q.1 + 1 == i && q.2.category == 2))) → W p l e R s m args below meth c H locs 0 0 Q (F0 m (pc + len) ls' rest)) → W p l e R s m args below meth c H locs 0 0 Q (F0 m pc ls (v :: rest)))
    (k : zGo η kds D cl cy L Θ h0 eff A H0 nL p l e R s m args below meth c Q σA (pc + len) (as.1, zput as.2.1 i a, st, as.2.2.2)) :
    zGo η kds D cl cy L Θ h0 eff A H0 nL p l e R s m args below meth c Q σA pc as := by
  intro τ h H locs ls g
  obtain ⟨gE, gL, hl, gS, gV, gR, gH, gF, gX⟩ := g
  rw [hs] at gS ⊢
  have ha := gS a List.mem_cons_self
  rw [List.map_cons]
  refine hw _ H locs ls _ _ ⟨_, ha, rfl⟩ hl (fun ls' hl' => ?_)
  rw [z_put] at hl'
  exact k τ h H locs ls' ⟨gE, z_pm gL ha, hl', fun b hb => gS b (List.mem_cons_of_mem _ hb), gV, gR, gH, gF, gX⟩
end ZGO
