section
variable {η : zRn}
/-! calls by contract -/
/-- what a method's end says: one of its outcomes -/
def zQ (η : zRn) (kds : List zKD) (D : va_G) (cl : List vw_C) (cy : Nat → ClassId) (L : List Nat) (Θ : Nat → Option Nat) (h : Nat → Nat → Int) (σ : List Int) (outs : List zAS) (eff : List (Nat × Nat × Nat)) : Array Value → State → Outcome → State → Prop := fun _ st oc t =>
  ∃ (v : Option Value) (out : zAS) (ρ : List Int) (h' : Nat → Nat → Int), oc = .returned v ∧ out ∈ outs ∧ zge (σ ++ ρ) out.1 ∧ (∀ a ∈ out.2.2.1, zga Θ (σ ++ ρ) a) ∧ v.toList = out.2.2.1.map (zvo η (σ ++ ρ)) ∧ zgv Θ h' (σ ++ ρ) out.2.2.2.1 ∧ zgr (σ ++ ρ) out.2.2.2.2 ∧
    zH η kds D cl cy L Θ h' t.heap ∧ (∀ a k j, Θ a = some k → zinE eff k j j = false → h' a j = h a j) ∧ va_F (fun q => q ∈ L) st t
/-- the callee's symbols and the new ones behind it -/
def zsx (sub : zSB) (n len m : Nat) : zSB := sub ++ (List.range m).map (fun t => (n + t, len + t, 0))
def ztr (sub : zSB) (a : zAV) : Option zAV := match zsb sub a.2.1 with
  | some x => some (a.1, x.1, x.2 + a.2.2)
  | none => none
theorem z_sbapp {s1 s2 : zSB} {j : Nat} : zsb (s1 ++ s2) j = match zsb s1 j with
    | some x => some x
    | none => zsb s2 j := by
  induction s1 with
  | nil => rfl
  | cons q r ih =>
    obtain ⟨k, x⟩ := q
    simp only [List.cons_append, zsb]
    split
    · rfl
    · exact ih
theorem z_sbr {n len : Nat} : ∀ {l : List Nat} {j : Nat} {x : Nat × Int}, zsb (l.map (fun t => (n + t, len + t, 0))) j = some x → ∃ t ∈ l, j = n + t ∧ x = (len + t, 0) := by
  intro l
  induction l with
  | nil => intro j x h; cases h
  | cons q r ih =>
    intro j x h
    simp only [List.map_cons] at h
    unfold zsb at h
    split at h
    · rename_i e
      cases h
      exact ⟨q, List.mem_cons_self, e.symm, rfl⟩
    · obtain ⟨t, h1, h2⟩ := ih h
      exact ⟨t, List.mem_cons_of_mem _ h1, h2⟩
/-- a symbol of the callee's end, seen by the caller -/
theorem z_sx {σ ρ : List Int} {sub : zSB} {n j : Nat} {x : Nat × Int} (hn : ∀ j x, zsb sub j = some x → j < n ∧ x.1 < σ.length) (h : zsb (zsx sub n σ.length ρ.length) j = some x) : x.1 < (σ ++ ρ).length ∧ (zmap σ sub n ++ ρ).getD j 0 = (σ ++ ρ).getD x.1 0 + x.2 := by
  unfold zsx at h
  rw [z_sbapp] at h
  split at h
  · rename_i y hy
    cases h
    obtain ⟨h1, h2⟩ := hn _ _ hy
    refine ⟨by rw [List.length_append]; omega, ?_⟩
    rw [z_gd (by rw [z_mapl]; exact h1), z_mapg h1, z_gd h2]
    unfold zsg
    rw [hy]
  · obtain ⟨t, h1, rfl, rfl⟩ := z_sbr h
    have ht : t < ρ.length := List.mem_range.mp h1
    refine ⟨by rw [List.length_append]; simp only; omega, ?_⟩
    simp only [List.getD_eq_getElem?_getD]
    rw [List.getElem?_append_right (by rw [z_mapl]; omega), List.getElem?_append_right (by omega), z_mapl]
    rw [show n + t - n = t by omega, show σ.length + t - σ.length = t by omega]
    simp
theorem z_tr {Θ : Nat → Option Nat} {σ ρ : List Int} {sub : zSB} {n : Nat} {a b : zAV} (hn : ∀ j x, zsb sub j = some x → j < n ∧ x.1 < σ.length) (h : ztr (zsx sub n σ.length ρ.length) a = some b) (ga : zga Θ (zmap σ sub n ++ ρ) a) : zga Θ (σ ++ ρ) b ∧ zev (σ ++ ρ) b = zev (zmap σ sub n ++ ρ) a ∧ zvo η (σ ++ ρ) b = zvo η (zmap σ sub n ++ ρ) a := by
  unfold ztr at h
  split at h
  · rename_i x hx
    cases h
    obtain ⟨h1, h2⟩ := z_sx hn hx
    have ev : zev (σ ++ ρ) (a.1, x.1, x.2 + a.2.2) = zev (zmap σ sub n ++ ρ) a := by
      unfold zev
      rw [h2]
      simp only
      omega
    refine ⟨⟨h1, by rw [ev]; exact ga.2⟩, ev, ?_⟩
    unfold zvo
    rw [ev]
  · cases h
/-- the caller's bounds, narrowed by what the callee's end says of its first symbols -/
def zrfn (sub : zSB) (oe : List zIV) : Nat → List zIV → List zIV
  | 0, env => env
  | j + 1, env => match zsb sub j, oe[j]? with
    | some x, some q => (match (zrfn sub oe j env)[x.1]? with
      | some b => (zrfn sub oe j env).set x.1 (max b.1 (q.1 - x.2), min b.2 (q.2 - x.2))
      | none => zrfn sub oe j env)
    | _, _ => zrfn sub oe j env
theorem z_rfnl {sub : zSB} {oe : List zIV} : ∀ {j : Nat} {env : List zIV}, (zrfn sub oe j env).length = env.length := by
  intro j
  induction j with
  | zero => intro env; rfl
  | succ j ih =>
    intro env
    unfold zrfn
    split
    · split
      · rw [List.length_set, ih]
      · exact ih
    · exact ih
theorem z_rfn {σ ρ : List Int} {sub : zSB} {n : Nat} {oe : List zIV} (hn : ∀ j x, zsb sub j = some x → j < n ∧ x.1 < σ.length) (hoe : zge (zmap σ sub n ++ ρ) oe) : ∀ {j : Nat} {env : List zIV}, zge σ env → zge σ (zrfn sub oe j env) := by
  intro j
  induction j with
  | zero => intro env h; exact h
  | succ j ih =>
    intro env h
    unfold zrfn
    split
    · rename_i x q hx hq
      split
      · rename_i b hb
        have h1 := ih h
        have h2 := h1.2 _ _ hb
        have h3 := hoe.2 _ _ hq
        obtain ⟨hj, hi⟩ := hn _ _ hx
        rw [z_gd (by rw [z_mapl]; exact hj), z_mapg hj] at h3
        unfold zsg at h3
        rw [hx] at h3
        simp only at h3
        exact z_set h1 (by simp only; omega) (by simp only; omega)
      · exact ih h
    · exact ih h
def ztrs (sub : zSB) : List zAV → Option (List zAV)
  | [] => some []
  | a :: r => match ztr sub a, ztrs sub r with
    | some b, some t => some (b :: t)
    | _, _ => none
def ztrv (sub : zSB) : List zOV → Option (List zOV)
  | [] => some []
  | ((k, j), sl, v) :: r => match zsb sub j, ztr sub v, ztrv sub r with
    | some x, some w, some t => if x.2 = 0 then some (((k, x.1), sl, w) :: t) else none
    | _, _, _ => none
def ztrr (sub : zSB) : List (Nat × Nat × Int) → Option (List (Nat × Nat × Int))
  | [] => some []
  | (i, b, r) :: t => match zsb sub i, zsb sub b, ztrr sub t with
    | some x, some y, some u => some ((x.1, y.1, r + y.2 - x.2) :: u)
    | _, _, _ => none
section ZTR
variable {Θ : Nat → Option Nat} {σ ρ : List Int} {sub : zSB} {n : Nat}
theorem z_trs (hn : ∀ j x, zsb sub j = some x → j < n ∧ x.1 < σ.length) : ∀ {st st' : List zAV}, ztrs (zsx sub n σ.length ρ.length) st = some st' → (∀ a ∈ st, zga Θ (zmap σ sub n ++ ρ) a) → (∀ a ∈ st', zga Θ (σ ++ ρ) a) ∧ st'.map (zvo η (σ ++ ρ)) = st.map (zvo η (zmap σ sub n ++ ρ)) := by
  intro st
  induction st with
  | nil =>
    intro st' h g
    cases h
    exact ⟨fun _ h => (by cases h), rfl⟩
  | cons a r ih =>
    intro st' h g
    unfold ztrs at h
    split at h
    · rename_i b t hb ht
      cases h
      obtain ⟨e1, -, e3⟩ := z_tr hn hb (g a List.mem_cons_self)
      obtain ⟨f1, f2⟩ := ih ht (fun b hb => g b (List.mem_cons_of_mem _ hb))
      refine ⟨fun q hq => ?_, by rw [List.map_cons, List.map_cons, e3, f2]⟩
      rcases List.mem_cons.mp hq with rfl | hq
      · exact e1
      · exact f1 q hq
    · cases h
theorem z_trv {h : Nat → Nat → Int} (hn : ∀ j x, zsb sub j = some x → j < n ∧ x.1 < σ.length) : ∀ {ov ov' : List zOV}, ztrv (zsx sub n σ.length ρ.length) ov = some ov' → zgv Θ h (zmap σ sub n ++ ρ) ov → zgv Θ h (σ ++ ρ) ov' := by
  intro ov
  induction ov with
  | nil =>
    intro ov' h g
    cases h
    intro o ho
    cases ho
  | cons q r ih =>
    intro ov' h' g
    obtain ⟨⟨k, j⟩, sl, v⟩ := q
    unfold ztrv at h'
    split at h'
    · rename_i x w t hx hw ht
      split at h'
      · rename_i h0
        cases h'
        obtain ⟨g1, g2, g3, g4, g5⟩ := g _ List.mem_cons_self
        simp only at g1 g2 g3 g4 g5
        obtain ⟨e1, e2, -⟩ := z_tr (η := ((id, id) : zRn)) hn hw g2
        obtain ⟨f1, f2⟩ := z_sx hn hx
        rw [h0, Int.add_zero] at f2
        intro o ho
        rcases List.mem_cons.mp ho with rfl | ho
        · refine ⟨f1, e1, ?_⟩
          simp only
          rw [← f2, e2]
          exact ⟨g3, g4, g5⟩
        · exact ih ht (fun o ho => g o (List.mem_cons_of_mem _ ho)) o ho
      · cases h'
    · cases h'
theorem z_trr (hn : ∀ j x, zsb sub j = some x → j < n ∧ x.1 < σ.length) : ∀ {rel rel' : List (Nat × Nat × Int)}, ztrr (zsx sub n σ.length ρ.length) rel = some rel' → zgr (zmap σ sub n ++ ρ) rel → zgr (σ ++ ρ) rel' := by
  intro rel
  induction rel with
  | nil =>
    intro rel' h g
    cases h
    intro o ho
    cases ho
  | cons q r ih =>
    intro rel' h' g
    obtain ⟨i, b, t⟩ := q
    unfold ztrr at h'
    split at h'
    · rename_i x y u hx hy hu
      cases h'
      obtain ⟨f1, f2⟩ := z_sx hn hx
      obtain ⟨g1, g2⟩ := z_sx hn hy
      have := (g _ List.mem_cons_self).2.2
      simp only at this
      intro o ho
      rcases List.mem_cons.mp ho with rfl | ho
      · refine ⟨f1, g1, ?_⟩
        simp only
        omega
      · exact ih hu (fun o ho => g o (List.mem_cons_of_mem _ ho)) o ho
    · cases h'
end ZTR
/-- the caller's state behind an outcome -/
def zaft (as : zAS) (st : List zAV) (sub : zSB) (n : Nat) (effC : List (Nat × Nat × Nat)) (out : zAS) : Option zAS :=
  match ztrs (zsx sub n as.1.length (out.1.length - n)) out.2.2.1, ztrv (zsx sub n as.1.length (out.1.length - n)) out.2.2.2.1, ztrr (zsx sub n as.1.length (out.1.length - n)) out.2.2.2.2 with
  | some s', some v', some r' => some (zrfn sub out.1 n as.1 ++ out.1.drop n, as.2.1, s' ++ st, v' ++ as.2.2.2.1.filter (fun o => !(zinE effC o.1.1 o.2.1 o.2.1)), r' ++ as.2.2.2.2)
  | _, _, _ => none
theorem z_inc {e1 e2 : List (Nat × Nat × Nat)} (h : e1.all (fun e => zinE e2 e.1 e.2.1 e.2.2) = true) {k j : Nat} (hk : zinE e2 k j j = false) : zinE e1 k j j = false := by
  cases hc : zinE e1 k j j with
  | false => rfl
  | true =>
    unfold zinE at hc
    rw [List.any_eq_true] at hc
    obtain ⟨e, he, hc⟩ := hc
    simp only [Bool.and_eq_true, decide_eq_true_eq] at hc
    obtain ⟨⟨rfl, h1⟩, h2⟩ := hc
    have := z_iE (List.all_eq_true.mp h e he) h1 h2
    rw [this] at hk
    cases hk
section ZCA
variable {kds : List zKD} {D : va_G} {cl : List vw_C} {cy : Nat → ClassId} {L : List Nat} {Θ : Nat → Option Nat} {h0 : Nat → Nat → Int} {eff : List (Nat × Nat × Nat)} {A : Nat → Prop} {H0 : Heap} {nL : Nat}
variable {p : Program} {l : Launch} {e : Env} {R : Room} {s : State} {m : MethodId} {args : Array Value} {below : List Frame} {meth : Method} {c : Code} {Q : State → Prop}
variable {σA : List Int} {pc : Nat} {as : zAS}
theorem zgo_call (hLA : ∀ a ∈ L, A a) {ac : List zAV} {st : List zAV} (hs : as.2.2.1 = ac.reverse ++ st) (hst : (st.map (fun a => if a.1 = 1 then 2 else 1)).sum ≤ 8)
    {ea : List zAV} {ent : zAS} {outs : List zAS} {effC : List (Nat × Nat × Nat)} {sub : zSB}
    (hm : zmt 0 (as.1, as.2.1, ac, as.2.2.2.1, as.2.2.2.2) (ent.1, [], ea, ent.2.2.2.1, ent.2.2.2.2) sub = true) (hsl : sub.all (fun q => decide (q.2.1 < as.1.length)) = true) (heff : effC.all (fun q => zinE eff q.1 q.2.1 q.2.2) = true) (hlo : outs.all (fun o => decide (ent.1.length ≤ o.1.length)) = true)
    (hrun : ∀ (σc : List Int) (h : Nat → Nat → Int) (H : Heap) (locs : List Loc) (ls : Array Slot) (rest : List Value), zge σc ent.1 → (∀ a ∈ ea, zga Θ σc a) → zgv Θ h σc ent.2.2.2.1 → zgr σc ent.2.2.2.2 → zH η kds D cl cy L Θ h H → va_S A H0 H locs → ls.size = nL → (rest.map (fun v => v.category)).sum ≤ 8 →
      va_Run p l e R s m args below meth c H locs 0 0 0 0 (F0 m pc ls ((ea.map (zvo η σc)).reverse ++ rest)) rest (zQ η kds D cl cy L Θ h σc outs effC (ea.map (zvo η σc)).toArray) (fun q => q ∈ L))
    (k : ∀ out ∈ outs, ∃ as', zaft as st sub ent.1.length effC out = some as' ∧ zGo η kds D cl cy L Θ h0 eff A H0 nL p l e R s m args below meth c Q σA (pc + 3) as') :
    zGo η kds D cl cy L Θ h0 eff A H0 nL p l e R s m args below meth c Q σA pc as := by
  intro τ h H locs ls g
  have g0 := g
  obtain ⟨gE, gL, hl, gS, gV, gR, gH, gF, gX⟩ := g
  rw [hs] at gS ⊢
  have gst : ∀ a ∈ st, zga Θ (σA ++ τ) a := fun a ha => gS a (List.mem_append_right _ ha)
  have gac : ∀ a ∈ ac, zga Θ (σA ++ τ) a := fun a ha => gS a (List.mem_append_left _ (List.mem_reverse.mpr ha))
  have gm := z_mt (σ0 := []) (ρ := σA ++ τ) (kds := kds) (D := D) (cl := cl) (cy := cy) (L := L) (h0 := h0) (eff := eff) (A := A) (H0 := H0) (nL := nL) hm (Nat.zero_le _) (zG_stk (as := as) g0 gac)
  simp only [List.nil_append] at gm
  obtain ⟨-, ⟨mE, -, -, mS, mV, mR, -, -, -⟩, mst⟩ := gm
  have hn : ∀ j x, zsb sub j = some x → j < ent.1.length ∧ x.1 < (σA ++ τ).length := by
    intro j x hx
    unfold zmt at hm
    simp only [Bool.and_eq_true] at hm
    refine ⟨z_ckn hm.1.1.1.1.1.1 j x hx, ?_⟩
    rw [gE.1]
    have : ∀ {sb : zSB}, sb.all (fun q => decide (q.2.1 < as.1.length)) = true → zsb sb j = some x → x.1 < as.1.length := by
      intro sb
      induction sb with
      | nil => intro _ h; cases h
      | cons q r ih =>
        obtain ⟨i, y⟩ := q
        intro h1 h2
        simp only [List.all_cons, Bool.and_eq_true, decide_eq_true_eq] at h1
        unfold zsb at h2
        split at h2
        · cases h2
          exact h1.1
        · exact ih h1.2 h2
    exact this hsl hx
  have hcat : ((st.map (zvo η (σA ++ τ))).map (fun v => v.category)).sum ≤ 8 := by
    refine Nat.le_trans (Nat.le_of_eq ?_) hst
    rw [List.map_map]
    congr 1
    apply List.map_congr_left
    intro a _
    simp only [Function.comp]
    unfold zvo
    split
    · rename_i e
      have := z_cat (η := η) a.1 (zev (σA ++ τ) a)
      rw [e] at this ⊢
      simpa using this
    · rename_i e
      exact z_cat1 _ e
  have hr := hrun (zmap (σA ++ τ) sub ent.1.length) h H locs ls (st.map (zvo η (σA ++ τ))) mE mS mV mR gH gF hl.1 hcat
  rw [mst] at hr
  rw [List.map_append, List.map_reverse]
  intro T hT X
  obtain ⟨v, st₀, t, T', L', hh0, X', hL', e1, e2, ⟨v', out, ρ, h', hv, ho, oE, oS, ov, oV, oR, oH, oX, oF⟩, stp⟩ := hr T hT X
  cases hv
  obtain ⟨as', has, hk⟩ := k out ho
  have hlo' := of_decide_eq_true (List.all_eq_true.mp hlo out ho)
  have hρ : ρ.length = out.1.length - ent.1.length := by
    have := oE.1
    rw [List.length_append, z_mapl] at this
    omega
  unfold zaft at has
  rw [← hρ, ← gE.1] at has
  split at has
  · rename_i s' v' r' hs' hv' hr'
    cases has
    obtain ⟨a1, a2⟩ := z_trs (Θ := Θ) hn hs' oS
    have b1 := z_trv hn hv' oV
    have c1 := z_trr hn hr' oR
    have nE : zge ((σA ++ τ) ++ ρ) (zrfn sub out.1 ent.1.length as.1 ++ out.1.drop ent.1.length) := by
      have r1 := z_rfn hn oE (j := ent.1.length) gE
      refine ⟨by rw [List.length_append, gE.1, List.length_append, List.length_drop, z_rfnl, hρ], fun i q hi => ?_⟩
      by_cases hlt : i < as.1.length
      · rw [List.getElem?_append_left (by rw [z_rfnl]; exact hlt)] at hi
        rw [z_gd (by rw [gE.1]; exact hlt)]
        exact r1.2 i q hi
      · rw [List.getElem?_append_right (by rw [z_rfnl]; omega), z_rfnl, List.getElem?_drop] at hi
        have := oE.2 _ _ hi
        have eq : (zmap (σA ++ τ) sub ent.1.length ++ ρ).getD (ent.1.length + (i - as.1.length)) 0 = ((σA ++ τ) ++ ρ).getD i 0 := by
          simp only [List.getD_eq_getElem?_getD]
          rw [List.getElem?_append_right (by rw [z_mapl]; omega), List.getElem?_append_right (by rw [gE.1]; omega), z_mapl, gE.1]
          congr 2
          omega
        rw [eq] at this
        exact this
    have g' : zG η kds D cl cy L Θ h0 eff A H0 nL (zrfn sub out.1 ent.1.length as.1 ++ out.1.drop ent.1.length, as.2.1, s' ++ st, v' ++ as.2.2.2.1.filter (fun o => !(zinE effC o.1.1 o.2.1 o.2.1)), r' ++ as.2.2.2.2) (σA ++ (τ ++ ρ)) h' t.heap (locs ++ L') ls := by
      rw [← List.append_assoc]
      refine ⟨nE, fun q hq => z_ga (gL q hq), z_lv gL hl, ?_, ?_, ?_, oH, ?_, ?_⟩
      · intro a ha
        rcases List.mem_append.mp ha with ha | ha
        · exact a1 a ha
        · exact z_ga (gst a ha)
      · intro o hoo
        rcases List.mem_append.mp hoo with hoo | hoo
        · exact b1 o hoo
        · obtain ⟨h1, h2⟩ := List.mem_filter.mp hoo
          obtain ⟨g1, g2, g3, g4, g5⟩ := z_gv (τ := ρ) gV o h1
          refine ⟨g1, g2, g3, g4, ?_⟩
          rw [oX _ _ _ g4 (by simpa using h2)]
          exact g5
      · intro r hr
        rcases List.mem_append.mp hr with hr | hr
        · exact c1 r hr
        · exact z_gr gR r hr
      · refine ⟨Nat.le_trans gF.1 (by rw [← hh0]; exact oF.1), fun q hq hA => ?_, fun q hq => ?_⟩
        · have hq' : q < st₀.heap.size := by rw [hh0]; exact Nat.lt_of_lt_of_le hq gF.1
          rw [oF.2 q hq' (fun hL => hA (hLA q hL)), hh0]
          exact gF.2.1 q hq hA
        · rcases List.mem_append.mp hq with hq | hq
          · exact gF.2.2 q hq
          · exact hLA _ (hL' q hq)
      · intro a k j ha hj
        rw [oX a k j ha (z_inc heff hj)]
        exact gX a k j ha hj
    have w := hk (τ ++ ρ) h' t.heap (locs ++ L') ls g'
    simp only [← List.append_assoc] at w
    rw [List.map_append, a2, z_st gst, ← ov] at w
    obtain ⟨t2, q1, q2⟩ := w T' e1 X'
    exact ⟨t2, stp t2 q1, q2⟩
  · cases has
end ZCA
end
section
/-! the step of the checker, for instructions that go straight on -/
def zlk {α : Type} : List (Nat × α) → Nat → Option α
  | [], _ => none
  | (j, a) :: r, i => if j = i then some a else zlk r i
theorem z_lk {α : Type} {l : List (Nat × α)} {i : Nat} {a : α} (h : zlk l i = some a) : (i, a) ∈ l := by
  induction l with
  | nil => cases h
  | cons q r ih =>
    obtain ⟨j, b⟩ := q
    unfold zlk at h
    split at h
    · rename_i e
      cases h
      subst e
      exact List.mem_cons_self
    · exact List.mem_cons_of_mem _ (ih h)
def zo_cst (as : zAS) (t : Nat) (n lo hi : Int) : Option zAS := if (decide (as.1[0]? = some (0, 0)) && decide (lo ≤ n) && decide (n ≤ hi)) = true then some (as.1, as.2.1, (t, 0, n) :: as.2.2.1, as.2.2.2) else none
def zo_ld (as : zAS) (i : Nat) (tp : Nat → Bool) : Option zAS := match zfind as.2.1 i with
  | some a => if tp a.1 = true then some (as.1, as.2.1, a :: as.2.2.1, as.2.2.2) else none
  | none => none
def zo_st (as : zAS) (i nL : Nat) (tp : Nat → Bool) : Option zAS := match as.2.2.1 with
  | a :: st => if (tp a.1 && decide (i < nL)) = true then some (as.1, zput as.2.1 i a, st, as.2.2.2) else none
  | [] => none
def zo_st2 (as : zAS) (i nL : Nat) : Option zAS := match as.2.2.1 with
  | a :: st => if (decide (a.1 = 1) && decide (i + 1 < nL)) = true then some (as.1, zput2 as.2.1 i a, st, as.2.2.2) else none
  | [] => none
def zo_ari (as : zAS) (op : Nat) : Option zAS := match as.2.2.1 with
  | b :: a :: st => if (decide (a.1 = 0) && decide (b.1 = 0)) = true then (match zari op as.1 a b with
      | some x => some (x.1, as.2.1, x.2 :: st, as.2.2.2)
      | none => none) else none
  | _ => none
def zo_f1 (as : zAS) (t1 t : Nat) (f : zIV → zIV) : Option zAS := match as.2.2.1 with
  | a :: st => if a.1 = t1 then (match ziv as.1 a with
      | some q => some (as.1 ++ [f q], as.2.1, (t, as.1.length, 0) :: st, as.2.2.2)
      | none => none) else none
  | _ => none
def zo_f2 (as : zAS) (t1 t2 t : Nat) (q : zIV) : Option zAS := match as.2.2.1 with
  | b :: a :: st => if (decide (a.1 = t1) && decide (b.1 = t2)) = true then some (as.1 ++ [q], as.2.1, (t, as.1.length, 0) :: st, as.2.2.2) else none
  | _ => none
def zo_iinc (as : zAS) (i : Nat) (n : Int) (nL : Nat) : Option zAS := match zfind as.2.1 i with
  | some a => if (decide (a.1 = 0) && decide (i < nL) && decide (as.1[0]? = some (0, 0)) && decide (-32768 ≤ n) && decide (n ≤ 32767)) = true then (match zari 0 as.1 a (0, 0, n) with
      | some x => some (x.1, zput as.2.1 i x.2, as.2.2.1, as.2.2.2)
      | none => none) else none
  | none => none
def zo_i2l (as : zAS) : Option zAS := match as.2.2.1 with
  | a :: st => if a.1 = 0 then some (as.1, as.2.1, (1, a.2.1, a.2.2) :: st, as.2.2.2) else none
  | [] => none
def zo_pop (as : zAS) : Option zAS := match as.2.2.1 with
  | a :: st => if a.1 = 1 then none else some (as.1, as.2.1, st, as.2.2.2)
  | [] => none
def zo_dup (as : zAS) : Option zAS := match as.2.2.1 with
  | a :: st => if a.1 = 1 then none else some (as.1, as.2.1, a :: a :: st, as.2.2.2)
  | [] => none
def zo_dup2 (as : zAS) : Option zAS := match as.2.2.1 with
  | a :: b :: st => if (decide (a.1 = 1) || decide (b.1 = 1)) = true then none else some (as.1, as.2.1, a :: b :: a :: b :: st, as.2.2.2)
  | _ => none
/-- fields by their numbers in the pool: class, field, and the type where it may be written -/
abbrev zFL : Type := List (Nat × Nat × Nat × Option FieldType)
def zo_get (kds : List zKD) (fl : zFL) (as : zAS) (idx : Nat) : Option zAS := match as.2.2.1, zlk fl idx with
  | a :: st, some f => (match kds[a.1 - 2]? with
    | some K => if (decide (2 ≤ a.1) && znn as.1 a && decide (K.1 = 0) && decide (K.2.1 = f.1)) = true then (match zrd kds as.1 as.2.2.2.1 (a.1 - 2) a.2.1 f.2.1 with
      | some x => some (x.1, as.2.1, x.2.2 :: st, x.2.1, as.2.2.2.2)
      | none => none) else none
    | none => none)
  | _, _ => none
def zo_put (kds : List zKD) (fl : zFL) (eff : List (Nat × Nat × Nat)) (as : zAS) (idx : Nat) : Option zAS := match as.2.2.1, zlk fl idx with
  | v :: a :: st, some f => (match kds[a.1 - 2]?, f.2.2 with
    | some K, some ty => if (decide (2 ≤ a.1) && znn as.1 a && decide (K.1 = 0) && decide (K.2.1 = f.1) && decide (f.2.1 < K.2.2.1) && zfty ty (zty K f.2.1) && zinE eff (a.1 - 2) f.2.1 f.2.1) = true then (match zcast as.1 (zty K f.2.1).1 v with
      | some w => if zfits as.1 (zty K f.2.1) w = true then some (as.1, as.2.1, st, zwr as.2.2.2.1 (a.1 - 2) a.2.1 f.2.1 w, as.2.2.2.2) else none
      | none => none) else none
    | _, _ => none)
  | _, _ => none
def zo_ald (kds : List zKD) (as : zAS) (form : Nat) (ts : List Nat) : Option zAS := match as.2.2.1 with
  | b :: a :: st => (match kds[a.1 - 2]?, ziv as.1 b with
    | some K, some q => if (decide (2 ≤ a.1) && znn as.1 a && decide (b.1 = 0) && decide (K.1 = form) && ts.contains K.2.1 && decide (0 ≤ q.1) && decide (q.2 < (K.2.2.1 : Int))) = true then (match zald kds as.1 as.2.2.2.1 (a.1 - 2) a.2.1 K q with
      | some x => if ((decide (form = 1) && decide (x.2.2.1 = 0)) || (decide (form = 2) && decide (2 ≤ x.2.2.1))) = true then some (x.1, as.2.1, x.2.2 :: st, x.2.1, as.2.2.2.2) else none
      | none => none) else none
    | _, _ => none)
  | _ => none
def zba (K : zKD) (lo hi : Int) : Bool := K.2.2.2.all (fun τ => decide (lo ≤ τ.2.1) && decide (τ.2.2 ≤ hi))
theorem z_ba {K : zKD} {lo hi : Int} (h : zba K lo hi = true) (h1 : lo ≤ 0) (h2 : -1 ≤ hi) (j : Nat) : lo ≤ (zty K j).2.1 ∧ (zty K j).2.2 ≤ hi := by
  unfold zty
  rw [List.getD_eq_getElem?_getD]
  cases hq : K.2.2.2[j % K.2.2.2.length]? with
  | none => exact ⟨h1, h2⟩
  | some τ =>
    have := List.all_eq_true.mp h τ (List.mem_of_getElem? hq)
    simpa using this
def zo_ast (kds : List zKD) (eff : List (Nat × Nat × Nat)) (as : zAS) (ts : List Nat) : Option zAS := match as.2.2.1 with
  | v :: b :: a :: st => (match kds[a.1 - 2]?, ziv as.1 b with
    | some K, some q => if (decide (2 ≤ a.1) && znn as.1 a && decide (b.1 = 0) && decide (v.1 = 0) && decide (K.1 = 1) && ts.contains K.2.1 && decide (0 ≤ q.1) && decide (q.2 < (K.2.2.1 : Int)) && zfalm as.1 K v q.1.toNat q.2.toNat && zinE eff (a.1 - 2) q.1.toNat q.2.toNat && (decide (K.2.1 = 0) || (decide (K.2.1 = 1) && zba K (-128) 127) || (decide (K.2.1 = 2) && zba K 0 1))) = true then
        some (as.1, as.2.1, st, zwra as.2.2.2.1 (a.1 - 2) a.2.1 q v, as.2.2.2.2) else none
    | _, _ => none)
  | _ => none
def zo_len (kds : List zKD) (as : zAS) : Option zAS := match as.2.2.1 with
  | a :: st => (match kds[a.1 - 2]? with
    | some K => if (decide (2 ≤ a.1) && znn as.1 a && (decide (K.1 = 1) && decide (K.2.1 ≤ 2)) && decide (K.2.2.1 ≤ 2147483647) && decide (as.1[0]? = some (0, 0))) = true then some (as.1, as.2.1, (0, 0, (K.2.2.1 : Int)) :: st, as.2.2.2) else none
    | none => none)
  | _ => none
def zl64 : zIV := (-9223372036854775808, 9223372036854775807)
def zneg (q : zIV) : zIV := zfit (-q.2, -q.1)
def zisI (t : Nat) : Bool := decide (t = 0)
def zisL (t : Nat) : Bool := decide (t = 1)
def zisA (t : Nat) : Bool := decide (2 ≤ t)
/-- the state behind an instruction that goes straight on -/
def zstp (kds : List zKD) (fl : zFL) (cs : List (Nat × Int) × List (Nat × Int)) (eff : List (Nat × Nat × Nat)) (nL : Nat) (ins : Jvm.ClassFile.Instr) (as : zAS) : Option zAS := match ins with
  | .iconst n => zo_cst as 0 n (-1) 5
  | .bipush n => zo_cst as 0 n (-128) 127
  | .sipush n => zo_cst as 0 n (-32768) 32767
  | .ldc i => (match zlk cs.1 i with
    | some n => zo_cst as 0 n (-2147483648) 2147483647
    | none => none)
  | .ldc_w i => (match zlk cs.1 i with
    | some n => zo_cst as 0 n (-2147483648) 2147483647
    | none => none)
  | .ldc2_w i => (match zlk cs.2 i with
    | some n => zo_cst as 1 n (-9223372036854775808) 9223372036854775807
    | none => none)
  | .lconst n => zo_cst as 1 (n.val : Int) 0 1
  | .aconst_null => zo_cst as 2 (-1) (-1) (-1)
  | .iload i => zo_ld as i zisI
  | .iload_n k => zo_ld as k.val zisI
  | .aload i => zo_ld as i zisA
  | .aload_n k => zo_ld as k.val zisA
  | .lload i => zo_ld as i zisL
  | .lload_n k => zo_ld as k.val zisL
  | .istore i => zo_st as i nL zisI
  | .istore_n k => zo_st as k.val nL zisI
  | .astore i => zo_st as i nL zisA
  | .astore_n k => zo_st as k.val nL zisA
  | .lstore i => zo_st2 as i nL
  | .lstore_n k => zo_st2 as k.val nL
  | .iadd => zo_ari as 0
  | .isub => zo_ari as 1
  | .imul => zo_ari as 2
  | .idiv => zo_ari as 3
  | .irem => zo_ari as 4
  | .ishl => zo_ari as 5
  | .ishr => zo_ari as 6
  | .iand => zo_ari as 7
  | .ior => zo_ari as 8
  | .ixor => zo_ari as 9
  | .iushr => zo_f2 as 0 0 0 ztop
  | .ineg => zo_f1 as 0 0 zneg
  | .i2b => zo_f1 as 0 0 (fun _ => (-128, 127))
  | .i2l => zo_i2l as
  | .land => zo_f2 as 1 1 1 zl64
  | .lor => zo_f2 as 1 1 1 zl64
  | .lshl => zo_f2 as 1 0 1 zl64
  | .lshr => zo_f2 as 1 0 1 zl64
  | .iinc i n => zo_iinc as i n nL
  | .pop => zo_pop as
  | .dup => zo_dup as
  | .dup2 => zo_dup2 as
  | .getfield idx => zo_get kds fl as idx
  | .putfield idx => zo_put kds fl eff as idx
  | .iaload => zo_ald kds as 1 [0]
  | .baload => zo_ald kds as 1 [1, 2]
  | .aaload => zo_ald kds as 2 [3, 4, 5, 6]
  | .iastore => zo_ast kds eff as [0]
  | .bastore => zo_ast kds eff as [1, 2]
  | .arraylength => zo_len kds as
  | _ => none
/-- how long an instruction is -/
def zlen (ins : Jvm.ClassFile.Instr) : Nat := match ins with
  | .bipush _ => 2
  | .sipush _ => 3
  | .ldc _ => 2
  | .ldc2_w _ => 3
  | .ldc_w _ => 3
  | .iload _ => 2
  | .aload _ => 2
  | .lload _ => 2
  | .istore _ => 2
  | .astore _ => 2
  | .lstore _ => 2
  | .iinc _ _ => 3
  | .getfield _ => 3
  | .putfield _ => 3
  | .if_icmp _ _ => 3
  | .ifCond _ _ => 3
  | .ifnull _ => 3
  | .ifnonnull _ => 3
  | .goto _ => 3
  | .invokevirtual _ => 3
  | .invokestatic _ => 3
  | _ => 1
end
section
variable {η : zRn}
/-! the step is sound -/
/-- what is said of a field of the pool -/
def zFok (own : String) (Ts : List Cond) (cl : List vw_C) (q : Nat × Nat × Nat × Option FieldType) : Prop :=
  ∃ (C : String) (T : u_T) (N : Nat), cl[q.2.1]? = some (C, T, N) ∧ (∀ w ∈ u_ws C T N, w ∈ Ts) ∧ q.2.2.1 < N ∧ Cond.fieldLink own q.1 (T q.2.2.1).1 (T q.2.2.1).2.1 (T q.2.2.1).2.2.1 ∈ Ts ∧
    ∀ ty, q.2.2.2 = some ty → (T q.2.2.1).2.2.2 = false ∧ ∃ ty0 : Nat → FieldType, (∀ k, k < N → parseFieldDescriptor (T k).2.2.1 = some (ty0 k)) ∧ (∀ a, a < N → ∀ b, b < N → a ≠ b → (T a).2.1 ≠ (T b).2.1) ∧ ty0 q.2.2.1 = ty
/-- the array classes -/
def zTy (cy : Nat → ClassId) (tys : List (ClassId × FieldType)) : Prop :=
  tys[0]? = some (cy 0, .int) ∧ tys[1]? = some (cy 1, .byte) ∧ tys[2]? = some (cy 2, .boolean) ∧ ∀ t, 3 ≤ t → t ≤ 6 → ∃ C : String, tys[t]? = some (cy t, .object C)
section ZSO
variable {kds : List zKD} {D : va_G} {cl : List vw_C} {cy : Nat → ClassId} {L : List Nat} {Θ : Nat → Option Nat} {h0 : Nat → Nat → Int} {eff : List (Nat × Nat × Nat)} {A : Nat → Prop} {H0 : Heap} {nL : Nat}
variable {p : Program} {l : Launch} {e : Env} {R : Room} {s : State} {m : MethodId} {args : Array Value} {below : List Frame} {meth : Method} {c : Code} {Q : State → Prop}
variable {cc : ByteArray} {σA : List Int} {pc : Nat} {as as' : zAS} {tys : List (ClassId × FieldType)} {Ts : List Cond} {own : String} {fl : zFL} {cs : List (Nat × Int) × List (Nat × Int)}
theorem zs_cst {t : Nat} {n lo hi : Int} {len : Nat} (h : zo_cst as t n lo hi = some as') (hn : lo ≤ n → n ≤ hi → zok Θ t n)
    (hw : lo ≤ n → n ≤ hi → ∀ (H : Heap) (locs : List Loc) (ls : Array Slot) (rest : List Value), W p l e R s m args below meth c H locs 0 0 Q (F0 m (pc + len) ls (zdec η t n :: rest)) → W p l e R s m args below meth c H locs 0 0 Q (F0 m pc ls rest))
    (k : zGo η kds D cl cy L Θ h0 eff A H0 nL p l e R s m args below meth c Q σA (pc + len) as') : zGo η kds D cl cy L Θ h0 eff A H0 nL p l e R s m args below meth c Q σA pc as := by
  unfold zo_cst at h
  split at h
  · rename_i hc
    cases h
    simp only [Bool.and_eq_true, decide_eq_true_eq] at hc
    exact zgo_cst hc.1.1 (hn hc.1.2 hc.2) (hw hc.1.2 hc.2) k
  · cases h
theorem z_vI {σ : List Int} {a : zAV} (ga : zga Θ σ a) (h : zisI a.1 = true) : ∃ x : Int32, zvo η σ a = .int x := by
  obtain ⟨x, hx, -⟩ := z_ci ga (of_decide_eq_true h)
  exact ⟨x, hx⟩
theorem z_vL {σ : List Int} {a : zAV} (h : zisL a.1 = true) : ∃ x : Int64, zvo η σ a = .long x := by
  obtain ⟨t, i, o⟩ := a
  have := of_decide_eq_true h
  simp only at this
  subst this
  exact ⟨_, rfl⟩
theorem z_vA {σ : List Int} {a : zAV} (h : zisA a.1 = true) : zvo η σ a = .null ∨ ∃ x : Nat, zvo η σ a = .ref x := by
  obtain ⟨t, i, o⟩ := a
  have := of_decide_eq_true h
  simp only at this
  match t, this with
  | t + 2, _ =>
    unfold zvo
    show va_rf (zrf η (zev σ (t + 2, i, o))) = .null ∨ ∃ x : Nat, va_rf (zrf η (zev σ (t + 2, i, o))) = .ref x
    cases zrf η (zev σ (t + 2, i, o)) with
    | none => exact Or.inl rfl
    | some x => exact Or.inr ⟨x, rfl⟩
theorem zs_ld {i len : Nat} {tp : Nat → Bool} (h : zo_ld as i tp = some as')
    (hw : ∀ (a : zAV), tp a.1 = true → ∀ (v : Value) (H : Heap) (locs : List Loc) (ls : Array Slot) (rest : List Value), (∃ σ : List Int, zga Θ σ a ∧ v = zvo η σ a) → ls[i]? = some (.val v) → W p l e R s m args below meth c H locs 0 0 Q (F0 m (pc + len) ls (v :: rest)) → W p l e R s m args below meth c H locs 0 0 Q (F0 m pc ls rest))
    (k : zGo η kds D cl cy L Θ h0 eff A H0 nL p l e R s m args below meth c Q σA (pc + len) as') : zGo η kds D cl cy L Θ h0 eff A H0 nL p l e R s m args below meth c Q σA pc as := by
  unfold zo_ld at h
  split at h
  · rename_i a ha
    split at h
    · rename_i ht
      cases h
      exact zgo_ld (cc := ByteArray.empty) ha (hw a ht) k
    · cases h
  · cases h
theorem zs_st {i len : Nat} {tp : Nat → Bool} (h : zo_st as i nL tp = some as')
    (hw : ∀ (a : zAV), tp a.1 = true → i < nL → ∀ (v : Value) (H : Heap) (locs : List Loc) (ls : Array Slot) (rest : List Value) (lv : List (Nat × Value)), (∃ σ : List Int, zga Θ σ a ∧ v = zvo η σ a) → lv_has ls nL lv →
      (∀ ls' : Array Slot, lv_has ls' nL ((i, v) :: lv.filter (fun q => !(q.1 == i) && !(q.1 + 1 == i && q.2.category == 2))) → W p l e R s m args below meth c H locs 0 0 Q (F0 m (pc + len) ls' rest)) → W p l e R s m args below meth c H locs 0 0 Q (F0 m pc ls (v :: rest)))
    (k : zGo η kds D cl cy L Θ h0 eff A H0 nL p l e R s m args below meth c Q σA (pc + len) as') : zGo η kds D cl cy L Θ h0 eff A H0 nL p l e R s m args below meth c Q σA pc as := by
  unfold zo_st at h
  split at h
  · rename_i a st hs
    split at h
    · rename_i ht
      cases h
      simp only [Bool.and_eq_true, decide_eq_true_eq] at ht
      exact zgo_sto (cc := ByteArray.empty) hs (hw a ht.1 ht.2) k
    · cases h
  · cases h
theorem zs_st2 {i len : Nat} (h : zo_st2 as i nL = some as')
    (hw : i + 1 < nL → ∀ (x : Int64) (H : Heap) (locs : List Loc) (ls : Array Slot) (rest : List Value) (lv : List (Nat × Value)), lv_has ls nL lv →
      (∀ ls' : Array Slot, lv_has ls' nL ((i, .long x) :: lv.filter (fun q => !(q.1 == i) && (!(q.1 == i + 1) && !(q.1 + 1 == i && q.2.category == 2)))) → W p l e R s m args below meth c H locs 0 0 Q (F0 m (pc + len) ls' rest)) → W p l e R s m args below meth c H locs 0 0 Q (F0 m pc ls (.long x :: rest)))
    (k : zGo η kds D cl cy L Θ h0 eff A H0 nL p l e R s m args below meth c Q σA (pc + len) as') : zGo η kds D cl cy L Θ h0 eff A H0 nL p l e R s m args below meth c Q σA pc as := by
  unfold zo_st2 at h
  split at h
  · rename_i a st hs
    split at h
    · rename_i ht
      cases h
      simp only [Bool.and_eq_true, decide_eq_true_eq] at ht
      intro τ h H locs ls g
      obtain ⟨gE, gL, hl, gS, gV, gR, gH, gF, gX⟩ := g
      rw [hs] at gS ⊢
      have ha := gS a List.mem_cons_self
      obtain ⟨x, hx⟩ := z_vL (σ := σA ++ τ) (a := a) (decide_eq_true ht.1)
      rw [List.map_cons, hx]
      refine hw ht.2 x H locs ls _ _ hl (fun ls' hl' => ?_)
      rw [← hx, z_put2] at hl'
      exact k τ h H locs ls' ⟨gE, z_pm2 gL ha, hl', fun b hb => gS b (List.mem_cons_of_mem _ hb), gV, gR, gH, gF, gX⟩
    · cases h
  · cases h
theorem zs_ari {op : Nat} (h : zo_ari as op = some as')
    (hw : ∀ (x y : Int32) (H : Heap) (locs : List Loc) (ls : Array Slot) (rest : List Value), (op = 3 ∨ op = 4 → 1 ≤ y.toInt) → W p l e R s m args below meth c H locs 0 0 Q (F0 m (pc + 1) ls (.int (zsem op x y) :: rest)) → W p l e R s m args below meth c H locs 0 0 Q (F0 m pc ls (.int y :: .int x :: rest)))
    (k : zGo η kds D cl cy L Θ h0 eff A H0 nL p l e R s m args below meth c Q σA (pc + 1) as') : zGo η kds D cl cy L Θ h0 eff A H0 nL p l e R s m args below meth c Q σA pc as := by
  unfold zo_ari at h
  split at h
  · rename_i b a st hs
    split at h
    · rename_i ht
      simp only [Bool.and_eq_true, decide_eq_true_eq] at ht
      split at h
      · rename_i x hx
        cases h
        exact zgo_ari hs ht hx hw k
      · cases h
    · cases h
  · cases h
theorem zs_f1 {t1 t : Nat} {f : zIV → zIV} (h : zo_f1 as t1 t f = some as')
    (hw : ∀ (a : zAV) (σ : List Int) (q : zIV), a.1 = t1 → zga Θ σ a → q.1 ≤ zev σ a → zev σ a ≤ q.2 → ∃ x : Int, (f q).1 ≤ x ∧ x ≤ (f q).2 ∧ zok Θ t x ∧ ∀ (H : Heap) (locs : List Loc) (ls : Array Slot) (rest : List Value), W p l e R s m args below meth c H locs 0 0 Q (F0 m (pc + 1) ls (zdec η t x :: rest)) → W p l e R s m args below meth c H locs 0 0 Q (F0 m pc ls (zvo η σ a :: rest)))
    (k : zGo η kds D cl cy L Θ h0 eff A H0 nL p l e R s m args below meth c Q σA (pc + 1) as') : zGo η kds D cl cy L Θ h0 eff A H0 nL p l e R s m args below meth c Q σA pc as := by
  unfold zo_f1 at h
  split at h
  · rename_i a st hs
    split at h
    · rename_i ht
      split at h
      · rename_i q hq
        cases h
        refine zgo_push k (fun σ h H locs ls g => ?_)
        have gS := g.2.2.2.1
        rw [hs] at gS ⊢
        have b := z_iv g.1 hq
        obtain ⟨x, e1, e2, e3, e4⟩ := hw a σ q ht (gS a List.mem_cons_self) b.1 b.2
        exact ⟨fun q hq => gS q (List.mem_cons_of_mem _ hq), x, e1, e2, e3, fun w => e4 H locs ls _ w⟩
      · cases h
    · cases h
  · cases h
theorem zs_f2 {t1 t2 t : Nat} {q : zIV} (h : zo_f2 as t1 t2 t q = some as')
    (hw : ∀ (a b : zAV) (σ : List Int), a.1 = t1 → b.1 = t2 → zga Θ σ a → zga Θ σ b → ∃ x : Int, q.1 ≤ x ∧ x ≤ q.2 ∧ zok Θ t x ∧ ∀ (H : Heap) (locs : List Loc) (ls : Array Slot) (rest : List Value), W p l e R s m args below meth c H locs 0 0 Q (F0 m (pc + 1) ls (zdec η t x :: rest)) → W p l e R s m args below meth c H locs 0 0 Q (F0 m pc ls (zvo η σ b :: zvo η σ a :: rest)))
    (k : zGo η kds D cl cy L Θ h0 eff A H0 nL p l e R s m args below meth c Q σA (pc + 1) as') : zGo η kds D cl cy L Θ h0 eff A H0 nL p l e R s m args below meth c Q σA pc as := by
  unfold zo_f2 at h
  split at h
  · rename_i b a st hs
    split at h
    · rename_i ht
      simp only [Bool.and_eq_true, decide_eq_true_eq] at ht
      cases h
      refine zgo_push k (fun σ h H locs ls g => ?_)
      have gS := g.2.2.2.1
      rw [hs] at gS ⊢
      obtain ⟨x, e1, e2, e3, e4⟩ := hw a b σ ht.1 ht.2 (gS a (List.mem_cons_of_mem _ List.mem_cons_self)) (gS b List.mem_cons_self)
      exact ⟨fun q hq => gS q (List.mem_cons_of_mem _ (List.mem_cons_of_mem _ hq)), x, e1, e2, e3, fun w => e4 H locs ls _ w⟩
    · cases h
  · cases h
theorem z_vL2 {σ : List Int} {a : zAV} (ht : a.1 = 1) : ∃ x : Int64, zvo η σ a = .long x := z_vL (decide_eq_true ht)
theorem z_d64 (x : Int64) : zdec η 1 x.toInt = .long x := by
  show Value.long (Int64.ofInt x.toInt) = _
  rw [z_ofi64]
theorem z_d32 (x : Int32) : zdec η 0 x.toInt = .int x := by
  show Value.int (Int32.ofInt x.toInt) = _
  rw [z_ofi]
theorem zs_iinc (hexec : p.tables.exec = Jvm.exec) (hb : c.code = cc) {i : Nat} {n : Int} (hdg : decode cc pc = .ok (.iinc i n, 3)) (h : zo_iinc as i n nL = some as')
    (k : zGo η kds D cl cy L Θ h0 eff A H0 nL p l e R s m args below meth c Q σA (pc + 3) as') : zGo η kds D cl cy L Θ h0 eff A H0 nL p l e R s m args below meth c Q σA pc as := by
  unfold zo_iinc at h
  split at h
  · rename_i a ha
    split at h
    · rename_i hc
      simp only [Bool.and_eq_true, decide_eq_true_eq] at hc
      obtain ⟨⟨⟨⟨c1, c2⟩, c3⟩, c4⟩, c5⟩ := hc
      split at h
      · rename_i w hw
        cases h
        intro τ h H locs ls g
        obtain ⟨gE, gL, hl, gS, gV, gR, gH, gF, gX⟩ := g
        have ga := gL (i, a) (z_find ha)
        obtain ⟨x, ex, hx⟩ := z_ci ga c1
        have hy : (Int32.ofInt n).toInt = zev (σA ++ τ) (0, 0, n) := by rw [z_e0 gE c3, z_toi (by omega) (by omega)]
        have gn : zga Θ (σA ++ τ) (0, 0, n) := z_cg gE c3 (show _ ∧ _ by omega)
        obtain ⟨τ', hE, hd, hv⟩ := z_ari hw gE ga gn hx hy
        obtain ⟨j, hj⟩ := List.getElem?_of_mem (List.mem_map.mpr ⟨(i, a), z_find ha, rfl⟩ : (i, zvo η (σA ++ τ) a) ∈ as.2.1.map fun q => (q.1, zvo η (σA ++ τ) q.2))
        rw [ex] at hj
        refine lv_iinc (v := zsem 0 x (Int32.ofInt n)) hexec hb hdg hl hj rfl c2 rfl (fun ls' hl' => ?_)
        have hl2 : lv_has ls' nL ((zput as.2.1 i w.2).map fun q => (q.1, zvo η ((σA ++ τ) ++ τ') q.2)) := by
          rw [← z_put, hv]
          have e : (as.2.1.map fun q => (q.1, zvo η ((σA ++ τ) ++ τ') q.2)) = as.2.1.map fun q => (q.1, zvo η (σA ++ τ) q.2) := List.map_congr_left fun q hq => by rw [z_vo (gL q hq).1]
          rw [e]
          exact hl'
        have wk := k (τ ++ τ') h H locs ls' ⟨by rw [← List.append_assoc]; exact hE, z_pm (fun q hq => by rw [← List.append_assoc]; exact z_ga (gL q hq)) (by rw [← List.append_assoc]; exact hd), by rw [← List.append_assoc]; exact hl2, fun q hq => by rw [← List.append_assoc]; exact z_ga (gS q hq), by rw [← List.append_assoc]; exact z_gv gV, by rw [← List.append_assoc]; exact z_gr gR, gH, gF, gX⟩
        rw [← List.append_assoc] at wk
        simp only at wk
        rw [z_st gS] at wk
        exact wk
      · cases h
    · cases h
  · cases h
theorem zs_stk {st0 st : List zAV} {len : Nat} (hs : as.2.2.1 = st0) (hsub : ∀ a ∈ st, a ∈ st0)
    (hw : ∀ (σ : List Int) (H : Heap) (locs : List Loc) (ls : Array Slot), W p l e R s m args below meth c H locs 0 0 Q (F0 m (pc + len) ls (st.map (zvo η σ))) → W p l e R s m args below meth c H locs 0 0 Q (F0 m pc ls (st0.map (zvo η σ))))
    (k : zGo η kds D cl cy L Θ h0 eff A H0 nL p l e R s m args below meth c Q σA (pc + len) (as.1, as.2.1, st, as.2.2.2)) : zGo η kds D cl cy L Θ h0 eff A H0 nL p l e R s m args below meth c Q σA pc as := by
  refine zgo_stk k (fun σ h H locs ls g => ?_)
  have gS := g.2.2.2.1
  rw [hs] at gS ⊢
  exact ⟨fun a ha => gS a (hsub a ha), hw σ H locs ls⟩
end ZSO
end
section
variable {η : zRn}
/-! all the straight instructions -/
section ZSP
variable {kds : List zKD} {D : va_G} {cl : List vw_C} {cy : Nat → ClassId} {L : List Nat} {Θ : Nat → Option Nat} {h0 : Nat → Nat → Int} {eff : List (Nat × Nat × Nat)} {A : Nat → Prop} {H0 : Heap} {nL : Nat}
variable {p : Program} {l : Launch} {e : Env} {R : Room} {s : State} {m : MethodId} {args : Array Value} {below : List Frame} {meth : Method} {c : Code} {Q : State → Prop}
variable {cc : ByteArray} {σA : List Int} {pc : Nat} {as as' : zAS} {tys : List (ClassId × FieldType)} {Ts : List Cond} {own : String} {fl : zFL} {cs : List (Nat × Int) × List (Nat × Int)}
theorem z_nz {y : Int32} (h : 1 ≤ y.toInt) : ¬ y = 0 := by
  intro e
  rw [e, show (0 : Int32).toInt = 0 from rfl] at h
  omega
theorem z_rem {x y : Int32} (hy : 1 ≤ y.toInt) : x - x / y * y = x % y := by
  apply Int32.toInt_inj.mp
  rw [Int32.toInt_mod]
  have d := z_div (x := x) hy
  have t := Int.tmod_def x.toInt y.toInt
  have b1 := z_lo x
  have b2 := z_hi x
  have t2 : min 0 x.toInt ≤ x.toInt.tmod y.toInt ∧ x.toInt.tmod y.toInt ≤ max 0 x.toInt := by
    rcases Int.le_total 0 x.toInt with hx | hx
    · have e1 := Int.tmod_nonneg y.toInt hx
      have e2 : 0 ≤ x.toInt.tdiv y.toInt := Int.tdiv_nonneg hx (by omega)
      have e3 : 0 ≤ y.toInt * x.toInt.tdiv y.toInt := Int.mul_nonneg (by omega) e2
      omega
    · have hn : 0 ≤ -x.toInt := by omega
      have e1 := Int.tmod_nonneg y.toInt hn
      have e2 : 0 ≤ (-x.toInt).tdiv y.toInt := Int.tdiv_nonneg hn (by omega)
      have e3 : 0 ≤ y.toInt * (-x.toInt).tdiv y.toInt := Int.mul_nonneg (by omega) e2
      have e4 := Int.tmod_def (-x.toInt) y.toInt
      rw [Int.neg_tmod] at e1 e4
      omega
  have m1 : (x / y * y).toInt = x.toInt.tdiv y.toInt * y.toInt := by
    rw [← d]
    apply z_mul
    · rw [d, Int.mul_comm]; omega
    · rw [d, Int.mul_comm]; omega
  rw [Int.mul_comm] at m1
  have := z_sub (x := x) (y := x / y * y) (by rw [m1]; omega) (by rw [m1]; omega)
  rw [this, m1]
  omega
theorem z_sub2 {t : Nat} (h : 2 ≤ t) : t = (t - 2) + 2 := by omega
theorem zs_get (hexec : p.tables.exec = Jvm.exec) (hb : c.code = cc) (hts : ∀ w ∈ Ts, w.before args s = true) (hown : s.vm.findClass own = some m.cls) (hK : va_K D cl tys s) (hfl : ∀ q ∈ fl, zFok own Ts cl q) {idx : Nat} (hdg : decode cc pc = .ok (.getfield idx, 3)) (h : zo_get kds fl as idx = some as')
    (k : zGo η kds D cl cy L Θ h0 eff A H0 nL p l e R s m args below meth c Q σA (pc + 3) as') : zGo η kds D cl cy L Θ h0 eff A H0 nL p l e R s m args below meth c Q σA pc as := by
  unfold zo_get at h
  split at h
  · rename_i a st f hs hf
    split at h
    · rename_i K hKd
      split at h
      · rename_i hc
        simp only [Bool.and_eq_true, decide_eq_true_eq] at hc
        obtain ⟨⟨⟨c1, c2⟩, c3⟩, c4⟩ := hc
        split at h
        · rename_i x hx
          cases h
          obtain ⟨C, T, N, e1, e2, e3, e4, -⟩ := hfl _ (z_lk hf)
          exact zgo_get hexec hb hts hown hK e1 e2 e3 e4 hs (z_sub2 c1) c2 hKd ⟨c3, c4⟩ hx hdg k
        · cases h
      · cases h
    · cases h
  · cases h
theorem zs_put (hexec : p.tables.exec = Jvm.exec) (hb : c.code = cc) (hts : ∀ w ∈ Ts, w.before args s = true) (hown : s.vm.findClass own = some m.cls) (hK : va_K D cl tys s) (hnd : L.Nodup) (hLA : ∀ a ∈ L, A a) (hfl : ∀ q ∈ fl, zFok own Ts cl q) {idx : Nat} (hdg : decode cc pc = .ok (.putfield idx, 3)) (h : zo_put kds fl eff as idx = some as')
    (k : zGo η kds D cl cy L Θ h0 eff A H0 nL p l e R s m args below meth c Q σA (pc + 3) as') : zGo η kds D cl cy L Θ h0 eff A H0 nL p l e R s m args below meth c Q σA pc as := by
  unfold zo_put at h
  split at h
  · rename_i v a st f hs hf
    split at h
    · rename_i K ty hKd hty
      split at h
      · rename_i hc
        simp only [Bool.and_eq_true, decide_eq_true_eq] at hc
        obtain ⟨⟨⟨⟨⟨⟨c1, c2⟩, c3⟩, c4⟩, c5⟩, c6⟩, c7⟩ := hc
        split at h
        · rename_i w hw
          split at h
          · rename_i hfit
            cases h
            obtain ⟨C, T, N, e1, e2, e3, e4, e5⟩ := hfl _ (z_lk hf)
            obtain ⟨f1, ty0, f2, f3, f4⟩ := e5 ty hty
            simp only at f4
            exact zgo_put hexec hb hts hown hK hnd hLA e1 e2 ty0 f2 f3 e3 e4 f1 hs (z_sub2 c1) c2 hKd ⟨c3, c4⟩ c5 hw hfit (by rw [f4]; exact c6) c7 hdg k
          · cases h
        · cases h
      · cases h
    · cases h
  · cases h
theorem z_dq {t : Nat} {x : Int} (h : 2 ≤ t) : zdec η t x = va_rf (zrf η x) := by
  match t, h with
  | t + 2, _ => rfl
theorem z_con {ts : List Nat} {t : Nat} (h : ts.contains t = true) : t ∈ ts := by simpa using h
theorem zs_aldi (hexec : p.tables.exec = Jvm.exec) (hb : c.code = cc) (hK : va_K D cl tys s) (hT : zTy cy tys) {ts : List Nat} {ins : Jvm.ClassFile.Instr} (hi : (ins = .iaload ∧ ts = [0]) ∨ (ins = .baload ∧ ts = [1, 2])) (hdg : decode cc pc = .ok (ins, 1)) (h : zo_ald kds as 1 ts = some as')
    (k : zGo η kds D cl cy L Θ h0 eff A H0 nL p l e R s m args below meth c Q σA (pc + 1) as') : zGo η kds D cl cy L Θ h0 eff A H0 nL p l e R s m args below meth c Q σA pc as := by
  unfold zo_ald at h
  split at h
  · rename_i b a st hs
    split at h
    · rename_i K q hKd hq
      split at h
      · rename_i hc
        simp only [Bool.and_eq_true, decide_eq_true_eq] at hc
        obtain ⟨⟨⟨⟨⟨⟨c1, c2⟩, c3⟩, c4⟩, c5⟩, c6⟩, c7⟩ := hc
        split at h
        · rename_i x hx
          split at h
          · rename_i hx0
            have hx1 : x.2.2.1 = 0 := by simpa using hx0
            cases h
            refine zgo_ald hs (z_sub2 c1) c3 c2 hKd (by omega) hq c6 c7 hx (fun i ad g H locs ls rest ws q0 hP hw0 hin hcl htt w => ?_) k
            rw [zE_i c4] at hw0
            rw [hx1] at w
            have hmem := z_con c5
            rcases hi with ⟨rfl, rfl⟩ | ⟨rfl, rfl⟩
            · have e0 : K.2.1 = 0 := by simpa using hmem
              rw [e0] at hw0
              refine va_iald hexec hb hK hP q0 0 hw0 hT.1 hin hdg ?_
              rw [hcl]
              exact w
            · have e0 : K.2.1 = 1 ∨ K.2.1 = 2 := by simpa using hmem
              rcases e0 with e0 | e0
              · rw [e0] at hw0
                refine va_bald hexec hb hK hP q0 1 hw0 hT.2.1 hin hdg ?_
                rw [hcl]
                exact w
              · rw [e0] at hw0
                refine va_zald hexec hb hK hP q0 2 hw0 hT.2.2.1 hin hdg ?_
                rw [hcl]
                exact w
          · cases h
        · cases h
      · cases h
    · cases h
  · cases h
theorem zs_alda (hexec : p.tables.exec = Jvm.exec) (hb : c.code = cc) (hK : va_K D cl tys s) (hT : zTy cy tys) (hdg : decode cc pc = .ok (.aaload, 1)) (h : zo_ald kds as 2 [3, 4, 5, 6] = some as')
    (k : zGo η kds D cl cy L Θ h0 eff A H0 nL p l e R s m args below meth c Q σA (pc + 1) as') : zGo η kds D cl cy L Θ h0 eff A H0 nL p l e R s m args below meth c Q σA pc as := by
  unfold zo_ald at h
  split at h
  · rename_i b a st hs
    split at h
    · rename_i K q hKd hq
      split at h
      · rename_i hc
        simp only [Bool.and_eq_true, decide_eq_true_eq] at hc
        obtain ⟨⟨⟨⟨⟨⟨c1, c2⟩, c3⟩, c4⟩, c5⟩, c6⟩, c7⟩ := hc
        split at h
        · rename_i x hx
          split at h
          · rename_i hx0
            cases h
            refine zgo_ald hs (z_sub2 c1) c3 c2 hKd (by omega) hq c6 c7 hx (fun i ad g H locs ls rest ws q0 hP hw0 hin hcl htt w => ?_) k
            rw [zE_q c4] at hw0
            have hmem := z_con c5
            have e0 : K.2.1 = 3 ∨ K.2.1 = 4 ∨ K.2.1 = 5 ∨ K.2.1 = 6 := by simpa using hmem
            obtain ⟨C, hC⟩ := hT.2.2.2 K.2.1 (by omega) (by omega)
            refine va_aldq hexec hb hK hP q0 K.2.1 hw0 hC hin hdg ?_
            rw [hcl]
            have hx2 : 2 ≤ x.2.2.1 := by simpa using hx0
            rw [z_dq hx2] at w
            exact w
          · cases h
        · cases h
      · cases h
    · cases h
  · cases h
theorem z_nb8 : ∀ k : Fin 256, vp_nar .byte (Int32.ofInt ((k.val : Int) - 128)) = Int32.ofInt ((k.val : Int) - 128) := by decide +kernel
theorem z_narb {x : Int32} (h1 : -128 ≤ x.toInt) (h2 : x.toInt ≤ 127) : vp_nar .byte x = x := by
  have := z_nb8 ⟨(x.toInt + 128).toNat, by omega⟩
  simp only at this
  rw [show ((x.toInt + 128).toNat : Int) - 128 = x.toInt by omega, z_ofi] at this
  exact this
theorem z_nz1 : ∀ k : Fin 2, vp_nar .boolean (Int32.ofInt (k.val : Int)) = Int32.ofInt (k.val : Int) := by decide +kernel
theorem z_narz {x : Int32} (h1 : 0 ≤ x.toInt) (h2 : x.toInt ≤ 1) : vp_nar .boolean x = x := by
  have := z_nz1 ⟨x.toInt.toNat, by omega⟩
  simp only at this
  rw [show ((x.toInt.toNat : Nat) : Int) = x.toInt by omega, z_ofi] at this
  exact this
theorem zs_ast (hexec : p.tables.exec = Jvm.exec) (hb : c.code = cc) (hK : va_K D cl tys s) (hT : zTy cy tys) (hnd : L.Nodup) (hLA : ∀ a ∈ L, A a) {ts : List Nat} {ins : Jvm.ClassFile.Instr} (hi : (ins = .iastore ∧ ts = [0]) ∨ (ins = .bastore ∧ ts = [1, 2])) (hdg : decode cc pc = .ok (ins, 1)) (h : zo_ast kds eff as ts = some as')
    (k : zGo η kds D cl cy L Θ h0 eff A H0 nL p l e R s m args below meth c Q σA (pc + 1) as') : zGo η kds D cl cy L Θ h0 eff A H0 nL p l e R s m args below meth c Q σA pc as := by
  unfold zo_ast at h
  split at h
  · rename_i v b a st hs
    split at h
    · rename_i K q hKd hq
      split at h
      · rename_i hc
        simp only [Bool.and_eq_true, decide_eq_true_eq, Bool.or_eq_true] at hc
        obtain ⟨⟨⟨⟨⟨⟨⟨⟨⟨⟨c1, c2⟩, c3⟩, c4⟩, c5⟩, c6⟩, c7⟩, c8⟩, c9⟩, c10⟩, c11⟩ := hc
        cases h
        have hmem := z_con c6
        refine zgo_ast hnd hLA hs (z_sub2 c1) c3 c4 c2 hKd c5 hq c7 c8 c9 c10 (fun i x ad f H locs ls rest ws q0 hP hD hS hw0 hin hcl b1 b2 w => ?_) k
        rcases hi with ⟨rfl, rfl⟩ | ⟨rfl, rfl⟩
        · have e0 : K.2.1 = 0 := by simpa using hmem
          rw [e0] at hw0 w
          refine va_iast hexec hb hK hP hD hS q0 0 hw0 hT.1 hin hdg (fun H1 locs1 hP1 _ hS1 => ?_)
          rw [hcl] at hP1
          exact w H1 locs1 hP1 hS1
        · have e0 : K.2.1 = 1 ∨ K.2.1 = 2 := by simpa using hmem
          rcases c11 with (c11 | c11) | c11
          · omega
          · have bb := z_ba c11.2 (by omega) (by omega) i.toInt.toNat
            rw [c11.1] at hw0 w
            refine va_bast hexec hb hK hP hD hS q0 1 hw0 hT.2.1 hin hdg (fun H1 locs1 hP1 _ hS1 => ?_)
            rw [hcl, z_narb (by omega) (by omega)] at hP1
            exact w H1 locs1 hP1 hS1
          · have bb := z_ba c11.2 (by omega) (by omega) i.toInt.toNat
            rw [c11.1] at hw0 w
            refine va_zast hexec hb hK hP hD hS q0 2 hw0 hT.2.2.1 hin hdg (fun H1 locs1 hP1 _ hS1 => ?_)
            rw [hcl, z_narz (by omega) (by omega)] at hP1
            exact w H1 locs1 hP1 hS1
      · cases h
    · cases h
  · cases h
theorem zs_len (hexec : p.tables.exec = Jvm.exec) (hb : c.code = cc) (hK : va_K D cl tys s) (hT : zTy cy tys) (hdg : decode cc pc = .ok (.arraylength, 1)) (h : zo_len kds as = some as')
    (k : zGo η kds D cl cy L Θ h0 eff A H0 nL p l e R s m args below meth c Q σA (pc + 1) as') : zGo η kds D cl cy L Θ h0 eff A H0 nL p l e R s m args below meth c Q σA pc as := by
  unfold zo_len at h
  split at h
  · rename_i a st hs
    split at h
    · rename_i K hKd
      split at h
      · rename_i hc
        simp only [Bool.and_eq_true, decide_eq_true_eq, Bool.or_eq_true] at hc
        obtain ⟨⟨⟨⟨c1, c2⟩, c3⟩, c4⟩, c5⟩ := hc
        cases h
        refine zgo_stk k (fun σ h H locs ls g => ?_)
        obtain ⟨gE, gL, hl, gS, gV, gR, gH, gF, gX⟩ := g
        rw [hs] at gS ⊢
        have ga := gS a List.mem_cons_self
        obtain ⟨ea, na, Θa⟩ := z_nnr c2 gE ga (z_sub2 c1)
        refine ⟨fun b hb => ?_, fun w => ?_⟩
        · rcases List.mem_cons.mp hb with rfl | hb
          · exact z_cg gE c5 (show _ ∧ _ by omega)
          · exact gS b (List.mem_cons_of_mem _ hb)
        · rw [List.map_cons, z_cv gE c5] at w
          rw [List.map_cons, ea]
          obtain ⟨q0, hq⟩ := zH_get gH Θa hKd (by omega)
          rw [zE_i c3.1] at hq
          have ht : ∃ ty, tys[K.2.1]? = some (cy K.2.1, ty) := by
            have : K.2.1 = 0 ∨ K.2.1 = 1 ∨ K.2.1 = 2 := by omega
            rcases this with e0 | e0 | e0 <;> rw [e0]
            · exact ⟨_, hT.1⟩
            · exact ⟨_, hT.2.1⟩
            · exact ⟨_, hT.2.2.1⟩
          obtain ⟨ty, ht⟩ := ht
          exact va_alen (v := Int32.ofInt (K.2.2.1 : Int)) hexec hb hK gH.1 q0 K.2.1 hq ht Int32.ofInt_eq_ofNat.symm hdg w
      · cases h
    · cases h
  · cases h
theorem z_stp (hexec : p.tables.exec = Jvm.exec) (hb : c.code = cc) (hts : ∀ w ∈ Ts, w.before args s = true) (hown : s.vm.findClass own = some m.cls) (hK : va_K D cl tys s) (hT : zTy cy tys) (hnd : L.Nodup) (hLA : ∀ a ∈ L, A a) (hfl : ∀ q ∈ fl, zFok own Ts cl q)
    (hcs : (∀ q ∈ cs.1, Cond.constant own q.1 (Int32.ofInt q.2) ∈ Ts) ∧ ∀ q ∈ cs.2, Cond.constantLong own q.1 (Int64.ofInt q.2) ∈ Ts) {ins : Jvm.ClassFile.Instr} (hdg : decode cc pc = .ok (ins, zlen ins)) (h : zstp kds fl cs eff nL ins as = some as')
    (k : zGo η kds D cl cy L Θ h0 eff A H0 nL p l e R s m args below meth c Q σA (pc + zlen ins) as') : zGo η kds D cl cy L Θ h0 eff A H0 nL p l e R s m args below meth c Q σA pc as := by
  unfold zstp at h
  split at h
  · exact zs_cst h (fun _ _ => show _ ∧ _ by omega) (fun _ _ H locs ls rest w => lv_iconst hexec hb hdg rfl w) k
  · exact zs_cst h (fun _ _ => show _ ∧ _ by omega) (fun a b H locs ls rest w => lv_bipush hexec hb hdg (z_b8 a b) w) k
  · exact zs_cst h (fun _ _ => show _ ∧ _ by omega) (fun a b H locs ls rest w => lv_sipush hexec hb hdg (z_b16 a b) w) k
  · split at h
    · rename_i n hn
      exact zs_cst h (fun a b => ⟨a, b⟩) (fun _ _ H locs ls rest w => lv_ldc hexec hb hown (hts _ (hcs.1 _ (z_lk hn))) hdg w) k
    · cases h
  · split at h
    · rename_i n hn
      exact zs_cst h (fun a b => ⟨a, b⟩) (fun _ _ H locs ls rest w => lv_ldcw hexec hb hown (hts _ (hcs.1 _ (z_lk hn))) hdg w) k
    · cases h
  · split at h
    · rename_i n hn
      exact zs_cst h (fun a b => ⟨a, b⟩) (fun _ _ H locs ls rest w => lv_ldc2 hexec hb hown (hts _ (hcs.2 _ (z_lk hn))) hdg w) k
    · cases h
  · rename_i n
    exact zs_cst h (fun _ _ => show _ ∧ _ by omega) (fun _ _ H locs ls rest w => lv_lconst hexec hb hdg Int64.ofInt_eq_ofNat.symm w) k
  · exact zs_cst h (fun _ _ => Or.inl rfl) (fun _ _ H locs ls rest w => lv_null hexec hb hdg w) k
  · refine zs_ld h (fun a ht v H locs ls rest hv hl w => ?_) k
    obtain ⟨σ, ga, rfl⟩ := hv
    obtain ⟨x, hx⟩ := z_vI ga ht
    rw [hx] at hl w
    exact lv_iload hexec hb hdg hl w
  · refine zs_ld h (fun a ht v H locs ls rest hv hl w => ?_) k
    obtain ⟨σ, ga, rfl⟩ := hv
    obtain ⟨x, hx⟩ := z_vI ga ht
    rw [hx] at hl w
    exact lv_iload_n hexec hb hdg rfl hl w
  · refine zs_ld h (fun a ht v H locs ls rest hv hl w => ?_) k
    obtain ⟨σ, ga, rfl⟩ := hv
    rcases z_vA (σ := σ) ht with hx | ⟨x, hx⟩
    · rw [hx] at hl w
      exact lv_aloadN hexec hb hdg hl w
    · rw [hx] at hl w
      exact lv_aload hexec hb hdg hl w
  · refine zs_ld h (fun a ht v H locs ls rest hv hl w => ?_) k
    obtain ⟨σ, ga, rfl⟩ := hv
    rcases z_vA (σ := σ) ht with hx | ⟨x, hx⟩
    · rw [hx] at hl w
      exact lv_aload_nN hexec hb hdg rfl hl w
    · rw [hx] at hl w
      exact lv_aload_n hexec hb hdg rfl hl w
  · refine zs_ld h (fun a ht v H locs ls rest hv hl w => ?_) k
    obtain ⟨σ, ga, rfl⟩ := hv
    obtain ⟨x, hx⟩ := z_vL (σ := σ) ht
    rw [hx] at hl w
    exact lv_lload hexec hb hdg hl w
  · refine zs_ld h (fun a ht v H locs ls rest hv hl w => ?_) k
    obtain ⟨σ, ga, rfl⟩ := hv
    obtain ⟨x, hx⟩ := z_vL (σ := σ) ht
    rw [hx] at hl w
    exact lv_lload_n hexec hb hdg rfl hl w
  · refine zs_st h (fun a ht hi v H locs ls rest lv hv hl w => ?_) k
    obtain ⟨σ, ga, rfl⟩ := hv
    obtain ⟨x, hx⟩ := z_vI ga ht
    rw [hx] at w ⊢
    exact lv_istore hexec hb hdg hl hi rfl w
  · refine zs_st h (fun a ht hi v H locs ls rest lv hv hl w => ?_) k
    obtain ⟨σ, ga, rfl⟩ := hv
    obtain ⟨x, hx⟩ := z_vI ga ht
    rw [hx] at w ⊢
    exact lv_istore_n hexec hb hdg rfl hl hi rfl w
  · refine zs_st h (fun a ht hi v H locs ls rest lv hv hl w => ?_) k
    obtain ⟨σ, ga, rfl⟩ := hv
    rcases z_vA (σ := σ) ht with hx | ⟨x, hx⟩
    · rw [hx] at w ⊢
      exact lv_astoreN hexec hb hdg hl hi rfl w
    · rw [hx] at w ⊢
      exact lv_astore hexec hb hdg hl hi rfl w
  · refine zs_st h (fun a ht hi v H locs ls rest lv hv hl w => ?_) k
    obtain ⟨σ, ga, rfl⟩ := hv
    rcases z_vA (σ := σ) ht with hx | ⟨x, hx⟩
    · rw [hx] at w ⊢
      exact lv_astore_nN hexec hb hdg rfl hl hi rfl w
    · rw [hx] at w ⊢
      exact lv_astore_n hexec hb hdg rfl hl hi rfl w
  · exact zs_st2 h (fun hi x H locs ls rest lv hl w => lv_lstore hexec hb hdg hl hi rfl w) k
  · exact zs_st2 h (fun hi x H locs ls rest lv hl w => lv_lstore_n hexec hb hdg rfl hl hi rfl w) k
  · exact zs_ari h (fun x y H locs ls rest _ w => lv_iadd hexec hb hdg w) k
  · exact zs_ari h (fun x y H locs ls rest _ w => lv_isub hexec hb hdg w) k
  · exact zs_ari h (fun x y H locs ls rest _ w => lv_imul hexec hb hdg w) k
  · exact zs_ari h (fun x y H locs ls rest hz w => lv_idiv hexec hb hdg (z_nz (hz (Or.inl rfl))) w) k
  · exact zs_ari h (fun x y H locs ls rest hz w => lv_irem hexec hb hdg (z_nz (hz (Or.inr rfl))) (by rw [z_rem (hz (Or.inr rfl))]; exact w)) k
  · exact zs_ari h (fun x y H locs ls rest _ w => lv_ishl hexec hb hdg w) k
  · exact zs_ari h (fun x y H locs ls rest _ w => lv_ishr hexec hb hdg w) k
  · exact zs_ari h (fun x y H locs ls rest _ w => lv_iand hexec hb hdg w) k
  · exact zs_ari h (fun x y H locs ls rest _ w => lv_ior hexec hb hdg w) k
  · exact zs_ari h (fun x y H locs ls rest _ w => lv_ixor hexec hb hdg w) k
  · refine zs_f2 h (fun a b σ ha hb2 ga gb => ?_) k
    obtain ⟨x, ex, -⟩ := z_ci ga ha
    obtain ⟨y, ey, -⟩ := z_ci gb hb2
    refine ⟨((x.toUInt32 >>> (y.toUInt32 &&& Int32.toUInt32 31)).toInt32).toInt, z_lo _, z_hi _, ⟨z_lo _, z_hi _⟩, fun H locs ls rest w => ?_⟩
    rw [z_d32] at w
    rw [ex, ey]
    exact lv_iushr hexec hb hdg rfl w
  · refine zs_f1 h (fun a σ q ha ga b1 b2 => ?_) k
    obtain ⟨x, ex, hx⟩ := z_ci ga ha
    have f := z_fit (q := (-q.2, -q.1)) (v := -x.toInt) (r := -x) (by simp only; omega) (by simp only; omega) (fun a b => z_neg a b)
    refine ⟨(-x).toInt, f.1, f.2, ⟨z_lo _, z_hi _⟩, fun H locs ls rest w => ?_⟩
    rw [z_d32] at w
    rw [ex]
    exact lv_ineg hexec hb hdg w
  · refine zs_f1 h (fun a σ q ha ga b1 b2 => ?_) k
    obtain ⟨x, ex, hx⟩ := z_ci ga ha
    have e1 : (x.toInt8.toInt32).toInt = x.toInt8.toInt := Int8.toInt_toInt32 _
    have e2 := Int8.le_toInt x.toInt8
    have e3 := Int8.toInt_lt x.toInt8
    refine ⟨(x.toInt8.toInt32).toInt, by simp only; omega, by simp only; omega, ⟨z_lo _, z_hi _⟩, fun H locs ls rest w => ?_⟩
    rw [z_d32] at w
    rw [ex]
    exact lv_i2b hexec hb hdg rfl w
  · unfold zo_i2l at h
    split at h
    · rename_i a st hs
      split at h
      · rename_i ht
        cases h
        refine zgo_stk k (fun σ h H locs ls g => ?_)
        have gS := g.2.2.2.1
        rw [hs] at gS ⊢
        have ga := gS a List.mem_cons_self
        obtain ⟨x, ex, hx⟩ := z_ci ga ht
        have b1 := z_lo x
        have b2 := z_hi x
        have ev : zev σ (1, a.2.1, a.2.2) = zev σ a := rfl
        refine ⟨fun b hb => ?_, fun w => ?_⟩
        · rcases List.mem_cons.mp hb with rfl | hb
          · exact ⟨ga.1, by rw [ev, ← hx]; show _ ∧ _; omega⟩
          · exact gS b (List.mem_cons_of_mem _ hb)
        · rw [List.map_cons, ex]
          rw [List.map_cons] at w
          have evv : zvo η σ (1, a.2.1, a.2.2) = .long x.toInt64 := by
            unfold zvo
            rw [ev, ← hx]
            show Value.long (Int64.ofInt x.toInt) = _
            congr 1
          rw [evv] at w
          exact lv_i2l hexec hb hdg rfl w
      · cases h
    · cases h
  · refine zs_f2 h (fun a b σ ha hb2 ga gb => ?_) k
    obtain ⟨x, ex⟩ := z_vL2 (σ := σ) ha
    obtain ⟨y, ey⟩ := z_vL2 (σ := σ) hb2
    refine ⟨(x &&& y).toInt, z_lo64 _, z_hi64 _, ⟨z_lo64 _, z_hi64 _⟩, fun H locs ls rest w => ?_⟩
    rw [z_d64] at w
    rw [ex, ey]
    exact lv_land hexec hb hdg w
  · refine zs_f2 h (fun a b σ ha hb2 ga gb => ?_) k
    obtain ⟨x, ex⟩ := z_vL2 (σ := σ) ha
    obtain ⟨y, ey⟩ := z_vL2 (σ := σ) hb2
    refine ⟨(x ||| y).toInt, z_lo64 _, z_hi64 _, ⟨z_lo64 _, z_hi64 _⟩, fun H locs ls rest w => ?_⟩
    rw [z_d64] at w
    rw [ex, ey]
    exact lv_lor hexec hb hdg w
  · refine zs_f2 h (fun a b σ ha hb2 ga gb => ?_) k
    obtain ⟨x, ex⟩ := z_vL2 (σ := σ) ha
    obtain ⟨y, ey, -⟩ := z_ci gb hb2
    refine ⟨(x <<< (y.toInt64 &&& 63)).toInt, z_lo64 _, z_hi64 _, ⟨z_lo64 _, z_hi64 _⟩, fun H locs ls rest w => ?_⟩
    rw [z_d64] at w
    rw [ex, ey]
    exact lv_lshl hexec hb hdg rfl w
  · refine zs_f2 h (fun a b σ ha hb2 ga gb => ?_) k
    obtain ⟨x, ex⟩ := z_vL2 (σ := σ) ha
    obtain ⟨y, ey, -⟩ := z_ci gb hb2
    refine ⟨(x >>> (y.toInt64 &&& 63)).toInt, z_lo64 _, z_hi64 _, ⟨z_lo64 _, z_hi64 _⟩, fun H locs ls rest w => ?_⟩
    rw [z_d64] at w
    rw [ex, ey]
    exact lv_lshr hexec hb hdg rfl w
  · exact zs_iinc hexec hb hdg h k
  · unfold zo_pop at h
    split at h
    · rename_i a st hs
      split at h
      · cases h
      · rename_i ht
        cases h
        exact zs_stk (len := 1) hs (fun b hb => List.mem_cons_of_mem _ hb) (fun σ H locs ls w => lv_pop hexec hb hdg (z_cat1 _ ht) w) k
    · cases h
  · unfold zo_dup at h
    split at h
    · rename_i a st hs
      split at h
      · cases h
      · rename_i ht
        cases h
        refine zs_stk (st := a :: a :: st) (len := 1) hs (fun b hb => ?_) (fun σ H locs ls w => lv_dup hexec hb hdg (z_cat1 _ ht) w) k
        rcases List.mem_cons.mp hb with rfl | hb
        · exact List.mem_cons_self
        · exact hb
    · cases h
  · unfold zo_dup2 at h
    split at h
    · rename_i a b st hs
      split at h
      · cases h
      · rename_i ht
        cases h
        simp only [Bool.or_eq_true, decide_eq_true_eq, not_or] at ht
        refine zs_stk (st := a :: b :: a :: b :: st) (len := 1) hs (fun x hx => ?_) (fun σ H locs ls w => lv_dup2_11 hexec hb hdg (z_cat1 _ ht.1) (z_cat1 _ ht.2) w) k
        rcases List.mem_cons.mp hx with rfl | hx
        · exact List.mem_cons_self
        · rcases List.mem_cons.mp hx with rfl | hx
          · exact List.mem_cons_of_mem _ List.mem_cons_self
          · exact hx
    · cases h
  · exact zs_get hexec hb hts hown hK hfl hdg h k
  · exact zs_put hexec hb hts hown hK hnd hLA hfl hdg h k
  · exact zs_aldi hexec hb hK hT (Or.inl ⟨rfl, rfl⟩) hdg h k
  · exact zs_aldi hexec hb hK hT (Or.inr ⟨rfl, rfl⟩) hdg h k
  · exact zs_alda hexec hb hK hT hdg h k
  · exact zs_ast hexec hb hK hT hnd hLA (Or.inl ⟨rfl, rfl⟩) hdg h k
  · exact zs_ast hexec hb hK hT hnd hLA (Or.inr ⟨rfl, rfl⟩) hdg h k
  · exact zs_len hexec hb hK hT hdg h k
  · cases h
end ZSP
end
section
variable {η : zRn}
/-! the checker -/
/-- a contract: name, code, locals, what it returns; frames and locals' words; values and state at its start; its outcomes; what it may change -/
abbrev zCT : Type := (MethodName × ByteArray × Nat × Option FieldType) × (Nat × Nat) × (List zAV × zAS) × List zAS × List (Nat × Nat × Nat)
/-- a method as the checker wants it: instructions; fields; constants; contracts by place; own steps by place; marked states; places where the top's symbol is split -/
abbrev zMD : Type := List (Nat × Jvm.ClassFile.Instr × Nat) × zFL × (List (Nat × Int) × List (Nat × Int)) × List (Nat × List zCT) × List (Nat × Nat × (zAS → Option zAS)) × List (Nat × zAS × zRK) × List Nat
def zad (sub : zSB) (a' a : zAV) : zSB := match zsb sub a'.2.1 with
  | some _ => sub
  | none => (a'.2.1, a.2.1, a.2.2 - a'.2.2) :: sub
def zads : zSB → List zAV → List zAV → zSB
  | sub, a' :: r', a :: r => zads (zad sub a' a) r' r
  | sub, _, _ => sub
def zadl (loc : List (Nat × zAV)) : zSB → List (Nat × zAV) → zSB
  | sub, (i, a') :: r => zadl loc (match zfind loc i with
      | some a => zad sub a' a
      | none => sub) r
  | sub, [] => sub
def zadv (ov : List zOV) : zSB → List zOV → zSB
  | sub, ((k, j), sl, v') :: r => zadv ov (match zsb sub j with
      | some x => (match zlook ov k x.1 sl with
        | some v => zad sub v' v
        | none => sub)
      | none => sub) r
  | sub, [] => sub
def zid : Nat → zSB
  | 0 => []
  | n + 1 => (n, n, 0) :: zid n
/-- the map of a target's symbols -/
def zbs (n0 : Nat) (as tg : zAS) : zSB := zadv as.2.2.2.1 (zads (zadl as.2.1 (zid n0) tg.2.1) tg.2.2.1 as.2.2.1) tg.2.2.2.1
/-- an AV is there that says: symbol i is a reference of kind k -/
def zevd (env : List zIV) (st : List zAV) (ov : List zOV) (k i : Nat) : Bool := (st.any (fun a => decide (a = (k + 2, i, 0))) || ov.any (fun o => decide (o.2.2 = (k + 2, i, 0)))) && (match env[i]? with
  | some q => decide (0 ≤ q.1)
  | none => false)
/-- slots that a contract asks for are read -/
def ztch (kds : List zKD) (st : List zAV) : List zOV → List zIV → List zOV → zSB → List zIV × List zOV × zSB
  | [], env, ov, sub => (env, ov, sub)
  | ((k, j), sl, v') :: r, env, ov, sub => match zsb sub j with
    | some x => if (decide (x.2 = 0) && zevd env st ov k x.1) = true then (match zrd kds env ov k x.1 sl with
        | some y => ztch kds st r y.1 y.2.1 (zad sub v' y.2.2)
        | none => (env, ov, sub)) else (env, ov, sub)
    | none => (env, ov, sub)
def zemp (env : List zIV) : Bool := env.any (fun q => decide (q.2 < q.1))
/-- a call by a contract -/
def zcal1 (eff : List (Nat × Nat × Nat)) (as : zAS) (ac st : List zAV) (C : zCT) (sub : zSB) (K : zAS → Bool) : Bool :=
  zmt 0 (as.1, as.2.1, ac, as.2.2.2.1, as.2.2.2.2) (C.2.2.1.2.1, [], C.2.2.1.1, C.2.2.1.2.2.2.2.1, C.2.2.1.2.2.2.2.2) sub && sub.all (fun q => decide (q.2.1 < as.1.length)) && C.2.2.2.2.all (fun q => zinE eff q.1 q.2.1 q.2.2) && C.2.2.2.1.all (fun o => decide (C.2.2.1.2.1.length ≤ o.1.length)) &&
  decide ((st.map (fun a => if a.1 = 1 then 2 else 1)).sum ≤ 8) && C.2.2.2.1.all (fun out => match zaft as st sub C.2.2.1.2.1.length C.2.2.2.2 out with
    | some as' => K as'
    | none => false)
def zcal2 (eff : List (Nat × Nat × Nat)) (as : zAS) (ac st : List zAV) (C : zCT) (t : List zIV × List zOV × zSB) (K : zAS → Bool) : Bool := zcal1 eff (t.1, as.2.1, as.2.2.1, t.2.1, as.2.2.2.2) ac st C t.2.2 K
def zcal (kds : List zKD) (eff : List (Nat × Nat × Nat)) (as : zAS) (C : zCT) (K : zAS → Bool) : Bool :=
  zcal2 eff as (as.2.2.1.take C.2.2.1.1.length).reverse (as.2.2.1.drop C.2.2.1.1.length) C (ztch kds as.2.2.1 C.2.2.1.2.2.2.2.1 as.1 as.2.2.2.1 (zads [(0, 0, 0)] C.2.2.1.1 (as.2.2.1.take C.2.2.1.1.length).reverse)) K
/-- a branch -/
def zob (o : Option (List zIV)) (as : zAS) (st : List zAV) (K : zAS → Bool) : Bool := match o with
  | some env' => K (env', as.2.1, st, as.2.2.2)
  | none => true
def ztg (pc : Nat) (off : Int) (K : Nat → zAS → Bool) (as : zAS) : Bool := decide (0 ≤ (pc : Int) + off) && K ((pc : Int) + off).toNat as
/-- the cases of a switch from the i-th on -/
def zsw (pc : Nat) (lo : Int) (as : zAS) (a : zAV) (st : List zAV) (K : Nat → zAS → Bool) : Nat → List Int → Bool
  | _, [] => true
  | i, off :: r => zob (zbr 4 as.1 a (0, 0, lo + (i : Int))) as st (ztg pc off K) && zsw pc lo as a st K (i + 1) r
/-- an outcome is reached -/
def zrt (n0 : Nat) (outs : List zAS) (as : zAS) : Bool := outs.any (fun o => zmt n0 as (o.1, [], o.2.2.1, o.2.2.2.1, o.2.2.2.2) (zbs n0 as (o.1, [], o.2.2.1, o.2.2.2.1, o.2.2.2.2)) && decide (n0 ≤ o.1.length))
def zex (kds : List zKD) (nL : Nat) (eff : List (Nat × Nat × Nat)) (ret : Option FieldType) (outs : List zAS) (n0 : Nat) (M : zMD) (K : Nat → zAS → Bool) (pc : Nat) (as : zAS) : Bool :=
  match zlk M.1 pc with
  | none => false
  | some (ins, len) =>
    match zlk M.2.2.2.2.1 pc with
    | some f => (match f.2 as with
      | some as' => K (pc + f.1) as'
      | none => false)
    | none =>
      match ins with
      | .goto off => decide (len = 3) && ztg pc off K as
      | .if_icmp cd off => (match as.2.2.1 with
        | b :: a :: st => decide (len = 3) && decide (a.1 = 0) && decide (b.1 = 0) && decide (0 ≤ (pc : Int) + off) && zob (zbr (zcn cd) as.1 a b) as st (ztg pc off K) && zob (zbr (znot (zcn cd)) as.1 a b) as st (K (pc + 3))
        | _ => false)
      | .ifCond cd off => (match as.2.2.1 with
        | a :: st => decide (len = 3) && decide (a.1 = 0) && decide (as.1[0]? = some (0, 0)) && decide (0 ≤ (pc : Int) + off) && zob (zbr (zcn cd) as.1 a (0, 0, 0)) as st (ztg pc off K) && zob (zbr (znot (zcn cd)) as.1 a (0, 0, 0)) as st (K (pc + 3))
        | _ => false)
      | .ifnull off => (match as.2.2.1 with
        | a :: st => decide (len = 3) && decide (2 ≤ a.1) && decide (as.1[0]? = some (0, 0)) && decide (0 ≤ (pc : Int) + off) && zob (zbr 0 as.1 a (0, 0, 0)) as st (ztg pc off K) && zob (zbr 1 as.1 a (0, 0, 0)) as st (K (pc + 3))
        | _ => false)
      | .ifnonnull off => (match as.2.2.1 with
        | a :: st => decide (len = 3) && decide (2 ≤ a.1) && decide (as.1[0]? = some (0, 0)) && decide (0 ≤ (pc : Int) + off) && zob (zbr 1 as.1 a (0, 0, 0)) as st (ztg pc off K) && zob (zbr 0 as.1 a (0, 0, 0)) as st (K (pc + 3))
        | _ => false)
      | .lcmp => (match as.2.2.1, zlk M.1 (pc + 1) with
        | b :: a :: st, some (.ifCond cd off, ln) => decide (len = 1) && decide (ln = 3) && decide (a.1 = 1) && decide (b.1 = 1) && decide (0 ≤ ((pc + 1 : Nat) : Int) + off) && zob (zbr (zcn cd) as.1 a b) as st (ztg (pc + 1) off K) && zob (zbr (znot (zcn cd)) as.1 a b) as st (K (pc + 4))
        | _, _ => false)
      | .tableswitch dflt lo hi offs => (match as.2.2.1 with
        | a :: st => decide (a.1 = 0) && decide (as.1[0]? = some (0, 0)) && decide (hi - lo + 1 = (offs.toList.length : Int)) && decide (0 ≤ (pc : Int) + dflt) && offs.toList.all (fun o => decide (0 ≤ (pc : Int) + o)) && zsw pc lo as a st K 0 offs.toList && zob (zbr 0 as.1 a (0, 0, lo)) as st (ztg pc dflt K) && zob (zbr 2 as.1 a (0, 0, hi)) as st (ztg pc dflt K)
        | _ => false)
      | .lookupswitch dflt ps => (match as.2.2.1 with
        | a :: st => decide (a.1 = 0) && decide (as.1[0]? = some (0, 0)) && decide (0 ≤ (pc : Int) + dflt) && (ps.toList.zip (ps.toList.drop 1)).all (fun (a, next) => a.1 < next.1) && ps.toList.all (fun o => decide (0 ≤ (pc : Int) + o.2) && zob (zbr 4 as.1 a (0, 0, o.1)) as st (ztg pc o.2 K)) && ztg pc dflt K (as.1, as.2.1, st, as.2.2.2)
        | _ => false)
      | .ireturn => (match as.2.2.1 with
        | [a] => decide (len = 1) && decide (a.1 = 0) && (decide (ret = some .int) || (decide (ret = some .boolean) && zfits as.1 (0, 0, 1) a)) && zrt n0 outs as
        | _ => false)
      | .areturn => (match as.2.2.1, ret with
        | [a], some (.object _) => decide (len = 1) && decide (2 ≤ a.1) && zrt n0 outs as
        | _, _ => false)
      | .return_ => (match as.2.2.1 with
        | [] => decide (len = 1) && decide (ret = none) && zrt n0 outs as
        | _ => false)
      | .invokevirtual _ => (match zlk M.2.2.2.1 pc with
        | some Cs => decide (len = 3) && Cs.any (fun C => zcal kds eff as C (K (pc + 3)))
        | none => false)
      | .invokestatic _ => (match zlk M.2.2.2.1 pc with
        | some Cs => decide (len = 3) && Cs.any (fun C => zcal kds eff as C (K (pc + 3)))
        | none => false)
      | ins => decide (len = zlen ins) && (match zstp kds M.2.1 M.2.2.1 eff nL ins as with
        | some as' => K (pc + len) as'
        | none => false)
/-- the values of a symbol, one by one -/
def zspl (as : zAS) (i : Nat) (K : zAS → Bool) : Nat → Int → Bool
  | 0, _ => true
  | n + 1, v => K (as.1.set i (v, v), as.2.1, as.2.2.1, as.2.2.2) && zspl as i K n (v + 1)
def zexs (kds : List zKD) (nL : Nat) (eff : List (Nat × Nat × Nat)) (ret : Option FieldType) (outs : List zAS) (n0 : Nat) (M : zMD) (K : Nat → zAS → Bool) (pc : Nat) (as : zAS) : Bool :=
  if M.2.2.2.2.2.2.contains pc = true then (match as.2.2.1 with
    | a :: _ => (match as.1[a.2.1]? with
      | some q => if q.2 - q.1 ≤ 4096 then zspl as a.2.1 (zex kds nL eff ret outs n0 M K pc) (q.2 - q.1 + 1).toNat q.1
        else zex kds nL eff ret outs n0 M K pc (as.1.set a.2.1 (q.1, q.2 - 1), as.2.1, as.2.2.1, as.2.2.2) && zex kds nL eff ret outs n0 M K pc (as.1.set a.2.1 (q.2, q.2), as.2.1, as.2.2.1, as.2.2.2)
      | none => false)
    | [] => false)
  else zex kds nL eff ret outs n0 M K pc as
def zfor (n0 : Nat) (rk : zRK) (as : zAS) (t : zAS × zRK) (sub : zSB) : Bool := zmt n0 as t.1 sub && decide (n0 ≤ t.1.1.length) && zless as.1 as.2.2.2.2 rk t.2 sub
/-- the locals' bounds fit: asked first, for it is cheap -/
def zqk (as tg : zAS) : Bool := tg.2.1.all (fun q => match zfind as.2.1 q.1 with
  | some a => (match ziv as.1 a, ziv tg.1 q.2 with
    | some x, some y => decide (y.1 ≤ x.1) && decide (x.2 ≤ y.2)
    | _, _ => true)
  | none => false)
def zchk (kds : List zKD) (nL : Nat) (eff : List (Nat × Nat × Nat)) (ret : Option FieldType) (outs : List zAS) (n0 : Nat) (M : zMD) (rk : zRK) : Nat → Nat → zAS → Bool
  | 0, _, _ => false
  | n + 1, pc, as => if zemp as.1 = true then true
    else match M.2.2.2.2.2.1.filter (fun t => decide (t.1 = pc)) with
      | [] => zexs kds nL eff ret outs n0 M (zchk kds nL eff ret outs n0 M rk n) pc as
      | ts => ts.any (fun t => zqk as t.2.1 && zfor n0 rk as t.2 (zbs n0 as t.2.1))
/-- a method: its start, and every marked state -/
def zmeth (kds : List zKD) (C : zCT) (M : zMD) (fuel : Nat) (B : Int) : Bool :=
  zchk kds C.1.2.2.1 C.2.2.2.2 C.1.2.2.2 C.2.2.2.1 C.2.2.1.2.1.length M (B, []) fuel 0 (C.2.2.1.2.1, C.2.2.1.2.2.1, [], C.2.2.1.2.2.2.2.1, C.2.2.1.2.2.2.2.2) &&
  M.2.2.2.2.2.1.all (fun t => zpos t.2.1.1 t.2.2 && t.2.2.2.all (fun q => decide (q.1 < t.2.1.1.length)) && zexs kds C.1.2.2.1 C.2.2.2.2 C.1.2.2.2 C.2.2.2.1 C.2.2.1.2.1.length M (zchk kds C.1.2.2.1 C.2.2.2.2 C.1.2.2.2 C.2.2.2.1 C.2.2.1.2.1.length M t.2.2 fuel) t.1 t.2.1)
end
section
variable {η : zRn}
/-! the checker is sound -/
section ZSD
variable {kds : List zKD} {D : va_G} {cl : List vw_C} {cy : Nat → ClassId} {L : List Nat} {Θ : Nat → Option Nat} {h0 : Nat → Nat → Int} {eff : List (Nat × Nat × Nat)} {A : Nat → Prop} {H0 : Heap} {nL : Nat}
variable {p : Program} {l : Launch} {e : Env} {R : Room} {s : State} {m : MethodId} {args : Array Value} {below : List Frame} {meth : Method} {c : Code} {Q : State → Prop}
variable {cc : ByteArray} {σ0 σA : List Int} {pc : Nat} {as as' : zAS} {tys : List (ClassId × FieldType)} {Ts : List Cond} {own : String} {M : zMD} {ret : Option FieldType} {outs : List zAS}
theorem zgo_tch {st : List zAV} {loc : List (Nat × zAV)} {rel : List (Nat × Nat × Int)} : ∀ {l2 : List zOV} {env : List zIV} {ov : List zOV} {sub : zSB},
    zGo η kds D cl cy L Θ h0 eff A H0 nL p l e R s m args below meth c Q σA pc ((ztch kds st l2 env ov sub).1, loc, st, (ztch kds st l2 env ov sub).2.1, rel) → zGo η kds D cl cy L Θ h0 eff A H0 nL p l e R s m args below meth c Q σA pc (env, loc, st, ov, rel) := by
  intro l2
  induction l2 with
  | nil => intro env ov sub k; exact k
  | cons q r ih =>
    intro env ov sub k
    obtain ⟨⟨kk, j⟩, sl, v'⟩ := q
    unfold ztch at k
    split at k
    · rename_i x hx
      split at k
      · rename_i hc
        simp only [Bool.and_eq_true, decide_eq_true_eq] at hc
        split at k
        · rename_i y hy
          have k2 := ih k
          intro τ h H locs ls g
          obtain ⟨gE, gL, hl, gS, gV, gR, gH, gF, gX⟩ := g
          simp only at gE gL hl gS gV gR
          have ev := hc.2
          unfold zevd at ev
          rw [Bool.and_eq_true, Bool.or_eq_true] at ev
          have hga : zga Θ (σA ++ τ) (kk + 2, x.1, 0) := by
            rcases ev.1 with h1 | h1
            · rw [List.any_eq_true] at h1
              obtain ⟨a, ha, h1⟩ := h1
              have := of_decide_eq_true h1
              subst this
              exact gS _ ha
            · rw [List.any_eq_true] at h1
              obtain ⟨o, ho, h1⟩ := h1
              have := of_decide_eq_true h1
              have g2 := (gV o ho).2.1
              rw [this] at g2
              exact g2
          have hlo : 0 ≤ (σA ++ τ).getD x.1 0 := by
            have h2 := ev.2
            split at h2
            · rename_i q hq
              have := gE.2 _ _ hq
              have := of_decide_eq_true h2
              omega
            · cases h2
          have hΘ : Θ ((σA ++ τ).getD x.1 0).toNat = some kk := by
            rcases z_rr (η := η) hga rfl with ⟨e1, -⟩ | ⟨-, e2, -⟩
            · unfold zev at e1
              simp only at e1
              omega
            · unfold zev at e2
              simp only [Int.add_zero] at e2
              exact e2
          obtain ⟨τ', gE', gV', -, -, -⟩ := z_rd hy gE gV gH hga.1 hlo hΘ
          have w := k2 (τ ++ τ') h H locs ls ⟨by rw [← List.append_assoc]; exact gE', fun q hq => by rw [← List.append_assoc]; exact z_ga (gL q hq), by rw [← List.append_assoc]; exact z_lv gL hl, fun q hq => by rw [← List.append_assoc]; exact z_ga (gS q hq), by rw [← List.append_assoc]; exact gV', by rw [← List.append_assoc]; exact z_gr gR, gH, gF, gX⟩
          rw [← List.append_assoc] at w
          simp only at w ⊢
          rw [z_st gS] at w
          exact w
        · exact k
      · exact k
    · exact k
theorem zgo_emp (h : zemp as.1 = true) : zGo η kds D cl cy L Θ h0 eff A H0 nL p l e R s m args below meth c Q σA pc as := by
  intro τ h' H locs ls g
  exfalso
  unfold zemp at h
  rw [List.any_eq_true] at h
  obtain ⟨q, hq, h⟩ := h
  obtain ⟨i, hi⟩ := List.getElem?_of_mem hq
  have := g.1.2 i q hi
  have := of_decide_eq_true h
  omega
/-- what a call by a contract needs -/
def zHrun (η : zRn) (kds : List zKD) (D : va_G) (cl : List vw_C) (cy : Nat → ClassId) (L : List Nat) (Θ : Nat → Option Nat) (A : Nat → Prop) (H0 : Heap) (nL : Nat) (p : Program) (l : Launch) (e : Env) (R : Room) (s : State) (m : MethodId) (args : Array Value) (below : List Frame) (meth : Method) (c : Code) (pc : Nat) (C : zCT) : Prop :=
  ∀ (σc : List Int) (h : Nat → Nat → Int) (H : Heap) (locs : List Loc) (ls : Array Slot) (rest : List Value), zge σc C.2.2.1.2.1 → (∀ a ∈ C.2.2.1.1, zga Θ σc a) → zgv Θ h σc C.2.2.1.2.2.2.2.1 → zgr σc C.2.2.1.2.2.2.2.2 → zH η kds D cl cy L Θ h H → va_S A H0 H locs → ls.size = nL → (rest.map (fun v => v.category)).sum ≤ 8 →
    va_Run p l e R s m args below meth c H locs 0 0 0 0 (F0 m pc ls ((C.2.2.1.1.map (zvo η σc)).reverse ++ rest)) rest (zQ η kds D cl cy L Θ h σc C.2.2.2.1 C.2.2.2.2 (C.2.2.1.1.map (zvo η σc)).toArray) (fun q => q ∈ L)
theorem zgo_cal (hLA : ∀ a ∈ L, A a) {C : zCT} {K : zAS → Bool} (hrun : zHrun η kds D cl cy L Θ A H0 nL p l e R s m args below meth c pc C) (hK : ∀ as', K as' = true → zGo η kds D cl cy L Θ h0 eff A H0 nL p l e R s m args below meth c Q σA (pc + 3) as') (h : zcal kds eff as C K = true) : zGo η kds D cl cy L Θ h0 eff A H0 nL p l e R s m args below meth c Q σA pc as := by
  unfold zcal zcal2 zcal1 at h
  simp only [Bool.and_eq_true] at h
  obtain ⟨⟨⟨⟨⟨h1, h2⟩, h3⟩, h4⟩, h5⟩, h6⟩ := h
  have e : as = (as.1, as.2.1, as.2.2.1, as.2.2.2.1, as.2.2.2.2) := rfl
  rw [e]
  refine zgo_tch (l2 := C.2.2.1.2.2.2.2.1) (sub := zads [(0, 0, 0)] C.2.2.1.1 (as.2.2.1.take C.2.2.1.1.length).reverse) ?_
  refine zgo_call hLA (ac := (as.2.2.1.take C.2.2.1.1.length).reverse) (st := as.2.2.1.drop C.2.2.1.1.length) ?_ (of_decide_eq_true h5) (ea := C.2.2.1.1) (ent := C.2.2.1.2) (outs := C.2.2.2.1) (effC := C.2.2.2.2) h1 h2 h3 h4 hrun ?_
  · simp only [List.reverse_reverse, List.take_append_drop]
  · intro out ho
    have := List.all_eq_true.mp h6 out ho
    split at this
    · rename_i as' has
      exact ⟨as', has, hK as' this⟩
    · cases this
theorem z_ob {o : Option (List zIV)} {st : List zAV} {K : zAS → Bool} {pc' : Nat} (hK : ∀ as', K as' = true → zGo η kds D cl cy L Θ h0 eff A H0 nL p l e R s m args below meth c Q σA pc' as') (h : zob o as st K = true) : ∀ env', o = some env' → zGo η kds D cl cy L Θ h0 eff A H0 nL p l e R s m args below meth c Q σA pc' (env', as.2.1, st, as.2.2.2) := by
  intro env' he
  subst he
  exact hK _ h
theorem z_tgk {K : Nat → zAS → Bool} {off : Int} {tgt : Nat} (hK : ∀ pc as, K pc as = true → zGo η kds D cl cy L Θ h0 eff A H0 nL p l e R s m args below meth c Q σA pc as) (ht : ((pc : Int) + off).toNat = tgt) : ∀ as', ztg pc off K as' = true → zGo η kds D cl cy L Θ h0 eff A H0 nL p l e R s m args below meth c Q σA tgt as' := by
  intro as' h
  unfold ztg at h
  rw [Bool.and_eq_true] at h
  rw [← ht]
  exact hK _ _ h.2
theorem z_sw {K : Nat → zAS → Bool} {lo : Int} {a : zAV} {st : List zAV} : ∀ {offs : List Int} {i : Nat}, zsw pc lo as a st K i offs = true → ∀ (j : Nat) (off : Int), offs[j]? = some off → zob (zbr 4 as.1 a (0, 0, lo + ((i + j : Nat) : Int))) as st (ztg pc off K) = true := by
  intro offs
  induction offs with
  | nil => intro i _ j off h; simp at h
  | cons o r ih =>
    intro i h j off hj
    unfold zsw at h
    rw [Bool.and_eq_true] at h
    cases j with
    | zero =>
      simp at hj
      subst hj
      exact h.1
    | succ j =>
      have := ih h.2 j off (by simpa using hj)
      rw [show i + (j + 1) = i + 1 + j by omega]
      exact this
theorem z_lc {x y : Int64} (cd : Nat) : zcmp cd (lg_cmp x y).toInt 0 ↔ zcmp cd x.toInt y.toInt := by
  have key : ((lg_cmp x y).toInt = 1 ∧ y.toInt < x.toInt) ∨ ((lg_cmp x y).toInt = 0 ∧ x.toInt = y.toInt) ∨ ((lg_cmp x y).toInt = -1 ∧ x.toInt < y.toInt) := by
    unfold lg_cmp
    by_cases h1 : x > y
    · rw [if_pos h1]
      exact Or.inl ⟨rfl, Int64.lt_iff_toInt_lt.mp h1⟩
    · rw [if_neg h1]
      by_cases h2 : x = y
      · rw [if_pos h2]
        exact Or.inr (Or.inl ⟨rfl, by rw [h2]⟩)
      · rw [if_neg h2]
        refine Or.inr (Or.inr ⟨rfl, ?_⟩)
        have h3 : ¬ y.toInt < x.toInt := fun q => h1 (Int64.lt_iff_toInt_lt.mpr q)
        have h4 : ¬ x.toInt = y.toInt := fun q => h2 (Int64.toInt_inj.mp q)
        omega
  unfold zcmp
  split <;> omega
theorem z_cl {σ : List Int} {a : zAV} (h : zga Θ σ a) (ht : a.1 = 1) : ∃ x : Int64, zvo η σ a = .long x ∧ x.toInt = zev σ a := by
  obtain ⟨t, i, o⟩ := a
  simp only at ht
  subst ht
  have h2 := h.2
  simp only [zok] at h2
  refine ⟨Int64.ofInt (zev σ (1, i, o)), rfl, ?_⟩
  rw [Int64.toInt_ofInt]
  exact Int.bmod_eq_of_le (by simp only [Int64.size]; omega) (by simp only [Int64.size]; omega)
end ZSD
end
section
variable {η : zRn}
/-! from the check to the contract -/
section ZMN
variable {kds : List zKD} {D : va_G} {cl : List vw_C} {cy : Nat → ClassId} {L : List Nat} {Θ : Nat → Option Nat} {h0 : Nat → Nat → Int} {eff : List (Nat × Nat × Nat)} {A : Nat → Prop} {nL : Nat}
variable {p : Program} {l : Launch} {e : Env} {R : Room} {s : State} {m : MethodId} {args : Array Value} {below : List Frame} {meth : Method} {c : Code}
variable {cc : ByteArray} {σ0 σA : List Int} {pc : Nat} {as as' : zAS} {tys : List (ClassId × FieldType)} {Ts : List Cond} {own : String} {M : zMD} {ret : Option FieldType} {outs : List zAS}
/-- all that the checker takes as known of the method's place -/
def zCx (η : zRn) (kds : List zKD) (D : va_G) (cl : List vw_C) (cy : Nat → ClassId) (L : List Nat) (Θ : Nat → Option Nat) (h0 : Nat → Nat → Int) (eff : List (Nat × Nat × Nat)) (A : Nat → Prop) (nL : Nat) (p : Program) (l : Launch) (e : Env) (R : Room) (s : State) (m : MethodId) (args : Array Value) (below : List Frame) (meth : Method) (c : Code)
    (cc : ByteArray) (σ0 : List Int) (tys : List (ClassId × FieldType)) (Ts : List Cond) (own : String) (M : zMD) (ret : Option FieldType) (outs : List zAS) : Prop :=
  (p.tables.exec = Jvm.exec ∧ c.code = cc ∧ (∀ w ∈ Ts, w.before args s = true) ∧ s.vm.findClass own = some m.cls ∧ va_K D cl tys s ∧ zTy cy tys ∧ L.Nodup ∧ (∀ a ∈ L, A a)) ∧
  ((∀ q ∈ M.2.1, zFok own Ts cl q) ∧ ((∀ q ∈ M.2.2.1.1, Cond.constant own q.1 (Int32.ofInt q.2) ∈ Ts) ∧ ∀ q ∈ M.2.2.1.2, Cond.constantLong own q.1 (Int64.ofInt q.2) ∈ Ts) ∧ (∀ q ∈ M.1, decode cc q.1 = .ok (q.2.1, q.2.2))) ∧
  ((∀ q ∈ M.2.2.2.1, ∀ C ∈ q.2, zHrun η kds D cl cy L Θ A s.heap nL p l e R s m args below meth c q.1 C) ∧
    (∀ q ∈ M.2.2.2.2.1, ∀ (Q : State → Prop) (σA : List Int) (as as' : zAS), q.2.2 as = some as' → zGo η kds D cl cy L Θ h0 eff A s.heap nL p l e R s m args below meth c Q σA (q.1 + q.2.1) as' → zGo η kds D cl cy L Θ h0 eff A s.heap nL p l e R s m args below meth c Q σA q.1 as)) ∧
  (meth.sig.returnType = ret ∧ meth.locks = false ∧ (∀ q, A q → q ∈ L))
theorem z_rt {h : Nat → Nat → Int} {H : Heap} {locs : List Loc} {ls : Array Slot} {τ κ : List Int} {v : Option Value} {t : State} (hA : ∀ q, A q → q ∈ L) (hp : σA = σ0 ++ κ) (g : zG η kds D cl cy L Θ h0 eff A s.heap nL as (σA ++ τ) h H locs ls) (hr : zrt σ0.length outs as = true) (hv : v.toList = as.2.2.1.map (zvo η (σA ++ τ))) (ht : t.heap = H) :
    zQ η kds D cl cy L Θ h0 σ0 outs eff args s (.returned v) t ∧ ∀ q ∈ locs, q.base ∈ L := by
  unfold zrt at hr
  rw [List.any_eq_true] at hr
  obtain ⟨o, ho, hr⟩ := hr
  rw [Bool.and_eq_true] at hr
  subst hp
  rw [List.append_assoc] at g hv
  obtain ⟨⟨ρ, hρ⟩, ⟨mE, -, -, mS, mV, mR, mH, mF, mX⟩, mst⟩ := z_mt hr.1 (of_decide_eq_true hr.2) g
  simp only at hρ mE mS mV mR mst
  rw [hρ] at mE mS mV mR mst
  refine ⟨⟨v, o, ρ, h, rfl, ho, mE, mS, by rw [hv, mst], mV, mR, by rw [ht]; exact mH, mX, ?_⟩, fun q hq => hA _ (mF.2.2 q hq)⟩
  refine ⟨by rw [ht]; exact mF.1, fun q h1 h2 => ?_⟩
  rw [ht]
  exact mF.2.1 q h1 (fun ha => h2 (hA q ha))
theorem z_tn {pc : Nat} {off : Int} (h : 0 ≤ (pc : Int) + off) : (pc : Int) + off = ((((pc : Int) + off).toNat : Nat) : Int) := by omega
theorem z_lko (l : List (Int × Int)) (d k : Int) : Op.lookupswitch.offset l d k = d ∨ ∃ o ∈ l, o.1 = k ∧ Op.lookupswitch.offset l d k = o.2 := by
  induction l with
  | nil => exact Or.inl rfl
  | cons q r ih =>
    obtain ⟨a, o⟩ := q
    rw [Op.lookupswitch.offset_cons]
    by_cases h : a = k
    · rw [if_pos h]
      exact Or.inr ⟨(a, o), List.mem_cons_self, h, rfl⟩
    · rw [if_neg h]
      rcases ih with ih | ⟨q, h1, h2, h3⟩
      · exact Or.inl ih
      · exact Or.inr ⟨q, List.mem_cons_of_mem _ h1, h2, h3⟩
theorem z_ex {Qc : State → Prop} (hQ : Qc = MQ below (zQ η kds D cl cy L Θ h0 σ0 outs eff) args s 0 0 (fun q => q ∈ L)) (X : zCx η kds D cl cy L Θ h0 eff A nL p l e R s m args below meth c cc σ0 tys Ts own M ret outs) {K : Nat → zAS → Bool} (hK : ∀ pc as, K pc as = true → zGo η kds D cl cy L Θ h0 eff A s.heap nL p l e R s m args below meth c Qc σA pc as) (hp : ∃ κ, σA = σ0 ++ κ)
    (h : zex kds nL eff ret outs σ0.length M K pc as = true) : zGo η kds D cl cy L Θ h0 eff A s.heap nL p l e R s m args below meth c Qc σA pc as := by
  obtain ⟨⟨hexec, hb, hts, hown, hKc, hT, hnd, hLA⟩, ⟨hfl, hcs, hcd⟩, ⟨hca, hsp⟩, hr, hlocks, hA⟩ := X
  obtain ⟨κ, hp⟩ := hp
  unfold zex at h
  split at h
  · cases h
  · rename_i ins len hin
    have hdg := hcd _ (z_lk hin)
    simp only at hdg
    split at h
    · rename_i f hf
      split at h
      · rename_i as' has
        exact hsp _ (z_lk hf) _ _ _ _ has (hK _ _ h)
      · cases h
    · split at h
      · rename_i off
        simp only [Bool.and_eq_true, decide_eq_true_eq] at h
        obtain ⟨rfl, h⟩ := h
        have h1 := h
        unfold ztg at h1
        rw [Bool.and_eq_true] at h1
        intro τ h' H locs ls g
        exact lv_goto hexec hb hdg (z_tn (of_decide_eq_true h1.1)) (hK _ _ h1.2 τ h' H locs ls g)
      · rename_i cd off
        split at h
        · rename_i b a st hs
          simp only [Bool.and_eq_true, decide_eq_true_eq] at h
          obtain ⟨⟨⟨⟨⟨rfl, h1⟩, h2⟩, h3⟩, h4⟩, h5⟩ := h
          exact zgo_icmp hexec hb hdg (z_tn h3) hs ⟨h1, h2⟩ (z_ob (z_tgk hK rfl) h4) (z_ob (hK _) h5)
        · cases h
      · rename_i cd off
        split at h
        · rename_i a st hs
          simp only [Bool.and_eq_true, decide_eq_true_eq] at h
          obtain ⟨⟨⟨⟨⟨rfl, h1⟩, h2⟩, h3⟩, h4⟩, h5⟩ := h
          exact zgo_if hexec hb hdg (z_tn h3) hs h1 h2 (z_ob (z_tgk hK rfl) h4) (z_ob (hK _) h5)
        · cases h
      · rename_i off
        split at h
        · rename_i a st hs
          simp only [Bool.and_eq_true, decide_eq_true_eq] at h
          obtain ⟨⟨⟨⟨⟨rfl, h1⟩, h2⟩, h3⟩, h4⟩, h5⟩ := h
          exact zgo_null hexec hb hdg (z_tn h3) hs (z_sub2 h1) h2 (z_ob (z_tgk hK rfl) h4) (z_ob (hK _) h5)
        · cases h
      · rename_i off
        split at h
        · rename_i a st hs
          simp only [Bool.and_eq_true, decide_eq_true_eq] at h
          obtain ⟨⟨⟨⟨⟨rfl, h1⟩, h2⟩, h3⟩, h4⟩, h5⟩ := h
          exact zgo_nonnull hexec hb hdg (z_tn h3) hs (z_sub2 h1) h2 (z_ob (z_tgk hK rfl) h4) (z_ob (hK _) h5)
        · cases h
      · split at h
        · rename_i b a st cd off ln hs hn
          simp only [Bool.and_eq_true, decide_eq_true_eq] at h
          obtain ⟨⟨⟨⟨⟨⟨rfl, rfl⟩, h1⟩, h2⟩, h3⟩, h4⟩, h5⟩ := h
          have hdg2 := hcd _ (z_lk hn)
          simp only at hdg2
          intro τ h' H locs ls g
          have gS := g.2.2.2.1
          rw [hs] at gS ⊢
          obtain ⟨x, ex, hx⟩ := z_cl (gS a (List.mem_cons_of_mem _ List.mem_cons_self)) h1
          obtain ⟨y, ey, hy⟩ := z_cl (gS b List.mem_cons_self) h2
          have gst : ∀ q ∈ st, zga Θ (σA ++ τ) q := fun q hq => gS q (List.mem_cons_of_mem _ (List.mem_cons_of_mem _ hq))
          rw [List.map_cons, List.map_cons, ex, ey]
          refine W.lcmp hexec hb hdg ?_
          refine z_ic0 hexec hb hdg2 (z_tn h3) (fun hc => ?_) (fun hc => ?_)
          · rw [z_lc, hx, hy] at hc
            obtain ⟨env', e1, e2⟩ := z_br g.1 hc
            exact z_ob (z_tgk hK rfl) h4 env' e1 τ h' H locs ls (zG_env g e2 gst)
          · rw [z_lc, hx, hy] at hc
            obtain ⟨env', e1, e2⟩ := z_br g.1 (z_not hc)
            exact z_ob (hK _) h5 env' e1 τ h' H locs ls (zG_env g e2 gst)
        · cases h
      · rename_i dflt lo hi offs
        split at h
        · rename_i a st hs
          simp only [Bool.and_eq_true, decide_eq_true_eq] at h
          obtain ⟨⟨⟨⟨⟨⟨⟨h1, h2⟩, h3⟩, h4⟩, h5⟩, h6⟩, h7⟩, h8⟩ := h
          intro τ h' H locs ls g
          have gS := g.2.2.2.1
          rw [hs] at gS ⊢
          obtain ⟨x, ex, hx⟩ := z_ci (gS a List.mem_cons_self) h1
          have gst : ∀ q ∈ st, zga Θ (σA ++ τ) q := fun q hq => gS q (List.mem_cons_of_mem _ hq)
          rw [List.map_cons, ex]
          by_cases c1 : x.toInt < lo
          · refine lv_tableOut hexec hb hdg (Or.inl c1) (z_tn h4) ?_
            obtain ⟨env', e1, e2⟩ := z_br (cd := 0) (a := a) (b := (0, 0, lo)) g.1 (by rw [z_e0 g.1 h2, ← hx]; exact c1)
            exact z_ob (z_tgk hK rfl) h7 env' e1 τ h' H locs ls (zG_env g e2 gst)
          · by_cases c2 : hi < x.toInt
            · refine lv_tableOut hexec hb hdg (Or.inr c2) (z_tn h4) ?_
              obtain ⟨env', e1, e2⟩ := z_br (cd := 2) (a := a) (b := (0, 0, hi)) g.1 (by rw [z_e0 g.1 h2, ← hx]; exact c2)
              exact z_ob (z_tgk hK rfl) h8 env' e1 τ h' H locs ls (zG_env g e2 gst)
            · have hlt : (x.toInt - lo).toNat < offs.toList.length := by omega
              have ho : offs.toList[(x.toInt - lo).toNat]? = some (offs.toList[(x.toInt - lo).toNat]) := List.getElem?_eq_getElem hlt
              have hnn := of_decide_eq_true (List.all_eq_true.mp h5 _ (List.mem_of_getElem? ho))
              refine lv_tableIn hexec hb hdg c1 c2 (off := offs.toList[(x.toInt - lo).toNat]) (by rw [← Array.getElem?_toList]; exact ho) (z_tn hnn) ?_
              have sw := z_sw h6 _ _ ho
              rw [Nat.zero_add, show lo + (((x.toInt - lo).toNat : Nat) : Int) = x.toInt by omega] at sw
              obtain ⟨env', e1, e2⟩ := z_br (cd := 4) (a := a) (b := (0, 0, x.toInt)) g.1 (by rw [z_e0 g.1 h2, ← hx]; exact rfl)
              exact z_ob (z_tgk hK rfl) sw env' e1 τ h' H locs ls (zG_env g e2 gst)
        · cases h
      · rename_i dflt ps
        split at h
        · rename_i a st hs
          simp only [Bool.and_eq_true, decide_eq_true_eq] at h
          obtain ⟨⟨⟨⟨⟨h1, h2⟩, h3⟩, h4⟩, h5⟩, h6⟩ := h
          intro τ h' H locs ls g
          have gS := g.2.2.2.1
          rw [hs] at gS ⊢
          obtain ⟨x, ex, hx⟩ := z_ci (gS a List.mem_cons_self) h1
          have gst : ∀ q ∈ st, zga Θ (σA ++ τ) q := fun q hq => gS q (List.mem_cons_of_mem _ hq)
          rw [List.map_cons, ex]
          rcases z_lko ps.toList dflt x.toInt with ho | ⟨o, hm, ho1, ho2⟩
          · refine lv_lookup hexec hb hdg h4 ho (z_tn h3) ?_
            exact z_tgk hK rfl _ h6 τ h' H locs ls (zG_env g g.1 gst)
          · have hh := List.all_eq_true.mp h5 o hm
            rw [Bool.and_eq_true] at hh
            refine lv_lookup hexec hb hdg h4 ho2 (z_tn (of_decide_eq_true hh.1)) ?_
            obtain ⟨env', e1, e2⟩ := z_br (cd := 4) (a := a) (b := (0, 0, o.1)) g.1 (by rw [z_e0 g.1 h2, ← hx, ho1]; exact rfl)
            exact z_ob (z_tgk hK rfl) hh.2 env' e1 τ h' H locs ls (zG_env g e2 gst)
        · cases h
      · split at h
        · rename_i a hs
          simp only [Bool.and_eq_true, decide_eq_true_eq, Bool.or_eq_true] at h
          obtain ⟨⟨⟨rfl, h1⟩, h2⟩, h3⟩ := h
          intro τ h' H locs ls g
          have gS := g.2.2.2.1
          rw [hs] at gS
          have ga := gS a List.mem_cons_self
          obtain ⟨x, ex, hx⟩ := z_ci ga h1
          have hv : (some (Value.int x)).toList = as.2.2.1.map (zvo η (σA ++ τ)) := by rw [hs, List.map_cons, ex]; rfl
          rw [← hv, hQ]
          have hbase := (z_rt (args := args) (t := { s with heap := H }) hA hp g h3 hv rfl).2
          rcases h2 with h2 | h2
          · exact W.iret hexec hb (hr.trans h2) (fun t ht _ => (z_rt hA hp g h3 hv ht).1) hbase hdg hlocks
          · obtain ⟨-, b1, b2, b3⟩ := z_fits h2.2 g.1 ga
            have := z_b01 ⟨(zev (σA ++ τ) a).toNat, by simp only at b2 b3; omega⟩
            simp only at this b2 b3
            rw [show (((zev (σA ++ τ) a).toNat : Nat) : Int) = x.toInt by omega, z_ofi] at this
            exact W.zret hexec hb (hr.trans h2.1) this.1 (fun t ht _ => (z_rt hA hp g h3 hv ht).1) hbase hdg hlocks
        · cases h
      · split at h
        · rename_i a cn hs
          simp only [Bool.and_eq_true, decide_eq_true_eq] at h
          obtain ⟨⟨rfl, h1⟩, h3⟩ := h
          intro τ h' H locs ls g
          have hv : (some (zvo η (σA ++ τ) a)).toList = as.2.2.1.map (zvo η (σA ++ τ)) := by rw [hs]; rfl
          rw [← hv, hQ]
          have hbase := (z_rt (args := args) (t := { s with heap := H }) hA hp g h3 hv rfl).2
          exact W.aret hexec hb hr (Or.inl ⟨_, rfl⟩) (z_vA (decide_eq_true h1)) (fun t ht _ => (z_rt hA hp g h3 hv ht).1) hbase hdg hlocks
        · cases h
      · split at h
        · rename_i hs
          simp only [Bool.and_eq_true, decide_eq_true_eq] at h
          obtain ⟨⟨rfl, h1⟩, h3⟩ := h
          intro τ h' H locs ls g
          have hv : (none : Option Value).toList = as.2.2.1.map (zvo η (σA ++ τ)) := by rw [hs]; rfl
          rw [← hv, hQ]
          have hbase := (z_rt (args := args) (t := { s with heap := H }) hA hp g h3 hv rfl).2
          exact W.vret hexec hb (hr.trans h1) (fun t ht _ => (z_rt hA hp g h3 hv ht).1) hbase hdg hlocks
        · cases h
      · split at h
        · rename_i Cs hCs
          simp only [Bool.and_eq_true, decide_eq_true_eq] at h
          obtain ⟨rfl, h⟩ := h
          rw [List.any_eq_true] at h
          obtain ⟨C, hC, h⟩ := h
          exact zgo_cal hLA (hca _ (z_lk hCs) C hC) (hK _) h
        · cases h
      · split at h
        · rename_i Cs hCs
          simp only [Bool.and_eq_true, decide_eq_true_eq] at h
          obtain ⟨rfl, h⟩ := h
          rw [List.any_eq_true] at h
          obtain ⟨C, hC, h⟩ := h
          exact zgo_cal hLA (hca _ (z_lk hCs) C hC) (hK _) h
        · cases h
      · simp only [Bool.and_eq_true, decide_eq_true_eq] at h
        obtain ⟨rfl, h⟩ := h
        split at h
        · rename_i as' has
          exact z_stp hexec hb hts hown hKc hT hnd hLA hfl hcs hdg has (hK _ _ h)
        · cases h
theorem z_spl {Qc : State → Prop} {i : Nat} {K : zAS → Bool} (hK : ∀ as', K as' = true → zGo η kds D cl cy L Θ h0 eff A s.heap nL p l e R s m args below meth c Qc σA pc as') : ∀ {n : Nat} {v : Int}, zspl as i K n v = true → ∀ x, v ≤ x → x < v + n → zGo η kds D cl cy L Θ h0 eff A s.heap nL p l e R s m args below meth c Qc σA pc (as.1.set i (x, x), as.2.1, as.2.2.1, as.2.2.2) := by
  intro n
  induction n with
  | zero => intro v _ x h1 h2; omega
  | succ n ih =>
    intro v h x h1 h2
    unfold zspl at h
    rw [Bool.and_eq_true] at h
    by_cases e : x = v
    · subst e
      exact hK _ h.1
    · exact ih h.2 x (by omega) (by omega)
theorem z_exs {Qc : State → Prop} (hQ : Qc = MQ below (zQ η kds D cl cy L Θ h0 σ0 outs eff) args s 0 0 (fun q => q ∈ L)) (X : zCx η kds D cl cy L Θ h0 eff A nL p l e R s m args below meth c cc σ0 tys Ts own M ret outs) {K : Nat → zAS → Bool} (hK : ∀ pc as, K pc as = true → zGo η kds D cl cy L Θ h0 eff A s.heap nL p l e R s m args below meth c Qc σA pc as) (hp : ∃ κ, σA = σ0 ++ κ)
    (h : zexs kds nL eff ret outs σ0.length M K pc as = true) : zGo η kds D cl cy L Θ h0 eff A s.heap nL p l e R s m args below meth c Qc σA pc as := by
  unfold zexs at h
  split at h
  · split at h
    · rename_i a st hs
      split at h
      · rename_i q hq
        intro τ h' H locs ls g
        have b := g.1.2 _ _ hq
        split at h
        case isFalse =>
          rw [Bool.and_eq_true] at h
          by_cases e : (σA ++ τ).getD a.2.1 0 = q.2
          · exact z_ex hQ X hK hp h.2 τ h' H locs ls (zG_env g (z_set g.1 (by simp only; omega) (by simp only; omega)) g.2.2.2.1)
          · exact z_ex hQ X hK hp h.1 τ h' H locs ls (zG_env g (z_set g.1 (by simp only; omega) (by simp only; omega)) g.2.2.2.1)
        have := z_spl (Qc := Qc) (fun as' hh => z_ex hQ X hK hp hh) h ((σA ++ τ).getD a.2.1 0) b.1 (by omega) τ h' H locs ls (zG_env g (z_set g.1 (Int.le_refl _) (Int.le_refl _)) g.2.2.2.1)
        exact this
      · cases h
    · cases h
  · exact z_ex hQ X hK hp h
theorem z_chk {Qc : State → Prop} (hQ : Qc = MQ below (zQ η kds D cl cy L Θ h0 σ0 outs eff) args s 0 0 (fun q => q ∈ L)) (X : zCx η kds D cl cy L Θ h0 eff A nL p l e R s m args below meth c cc σ0 tys Ts own M ret outs) (hp : ∃ κ, σA = σ0 ++ κ) {rk : zRK} (hrk : ∀ q ∈ rk.2, q.1 < σA.length)
    (hI : ∀ t ∈ M.2.2.2.2.2.1, ∀ (σ : List Int) (h : Nat → Nat → Int) (H : Heap) (locs : List Loc) (ls : Array Slot), (∃ κ, σ = σ0 ++ κ) → zG η kds D cl cy L Θ h0 eff A s.heap nL t.2.1 σ h H locs ls → zrk σ t.2.2 < zrk σA rk → W p l e R s m args below meth c H locs 0 0 Qc (F0 m t.1 ls (t.2.1.2.2.1.map (zvo η σ)))) :
    ∀ {n pc : Nat} {as : zAS}, zchk kds nL eff ret outs σ0.length M rk n pc as = true → zGo η kds D cl cy L Θ h0 eff A s.heap nL p l e R s m args below meth c Qc σA pc as := by
  intro n
  induction n with
  | zero => intro pc as h; cases h
  | succ n ih =>
    intro pc as h
    unfold zchk at h
    split at h
    · rename_i he
      exact zgo_emp he
    · split at h
      · exact z_exs hQ X (fun pc as hh => ih hh) hp h
      · rename_i ts hts
        rw [List.any_eq_true] at h
        obtain ⟨t, ht, h⟩ := h
        have htm : t ∈ M.2.2.2.2.2.1 ∧ t.1 = pc := by
          have := List.mem_filter.mp ht
          exact ⟨this.1, of_decide_eq_true this.2⟩
        rw [Bool.and_eq_true] at h
        replace h := h.2
        unfold zfor at h
        simp only [Bool.and_eq_true, decide_eq_true_eq] at h
        obtain ⟨⟨h1, h2⟩, h3⟩ := h
        intro τ h' H locs ls g
        obtain ⟨κ, hκ⟩ := hp
        have g2 := g
        rw [hκ, List.append_assoc] at g2
        obtain ⟨hρ, mG, mst⟩ := z_mt h1 h2 g2
        have hn : ∀ j x, zsb (zbs σ0.length as t.2.1) j = some x → j < t.2.1.1.length := by
          unfold zmt at h1
          simp only [Bool.and_eq_true] at h1
          exact z_ckn h1.1.1.1.1.1.1
        have hl := z_less g2.1 g2.2.2.2.2.2.1 hn h3
        have hlt : zrk (σ0 ++ (κ ++ τ)) rk = zrk σA rk := by
          rw [← List.append_assoc, ← hκ]
          exact z_rkapp hrk
        rw [hlt] at hl
        have w := hI t htm.1 _ h' H locs ls hρ mG hl
        rw [htm.2, mst, ← List.append_assoc, ← hκ] at w
        exact w
end ZMN
end
section
variable {η : zRn}
/-! contracts -/
abbrev zKPt : Type := zRn → va_G → (Nat → ClassId) → List Nat → (Nat → Option Nat) → State → Prop
def zMet (kds : List zKD) (cl : List vw_C) (TW : List Cond) (KP : zKPt) (l : Launch) (C : zCT) : Prop :=
  ∀ (η : zRn) (D : va_G) (cy : Nat → ClassId) (L : List Nat) (Θ : Nat → Option Nat) (h : Nat → Nat → Int) (σ : List Int), L.Nodup → zge σ C.2.2.1.2.1 → (∀ a ∈ C.2.2.1.1, zga Θ σ a) → zgv Θ h σ C.2.2.1.2.2.2.2.1 → zgr σ C.2.2.1.2.2.2.2.2 →
    Met l C.1.1 (Cond.code C.1.1 C.1.2.1 C.1.2.2.1 C.1.2.2.2 :: TW) ({ frames := C.2.1.1, cells := 0, slots := 0, locals := C.2.1.2 } : Room) (va_Pc (C.2.2.1.1.map (zvo η σ)) (fun U => zH η kds D cl cy L Θ h U.heap ∧ KP η D cy L Θ U)) (zQ η kds D cl cy L Θ h σ C.2.2.2.1 C.2.2.2.2) 0 0 (fun q => q ∈ L)
/-- what is asked of the words on the classes -/
def zKPok (cl : List vw_C) (tyf : (Nat → ClassId) → List (ClassId × FieldType)) (KP : zKPt) : Prop :=
  (∀ η D cy L Θ U, KP η D cy L Θ U → va_K D cl (tyf cy) U ∧ zTy cy (tyf cy)) ∧
  (∀ η D cy L Θ (s U : State), KP η D cy L Θ s → s.WarmedH U.vm → s.heap.size ≤ U.heap.size → (∀ q, q < s.heap.size → q ∉ L → U.heap[q]? = s.heap[q]?) → KP η D cy L Θ U) ∧
  (∀ η D cy L Θ (U : State) (g : JFrame) (mk : MethodId) (a : Array Value), KP η D cy L Θ U → KP η D cy L Θ (U.calling g mk a))
def zgoodW (TW : List Cond) : Prop := ∀ w ∈ TW, (w.onTables && w.keeps) = true ∨ ∃ ty, w = .arrayClass ty
/-- a virtual call of a contract's method -/
def zCV (kds : List zKD) (cl : List vw_C) (TW : List Cond) (own : String) (cc : ByteArray) (fr lo pc : Nat) (C : zCT) : Prop :=
  ∃ idx : Nat, decode cc pc = .ok (.invokevirtual idx, 3) ∧ Cond.methodLink own idx C.1.1 ∈ TW ∧ Cond.instanceMethod C.1.1 ∈ TW ∧ Cond.selects C.1.1.cls C.1.1 C.1.1 ∈ TW ∧ Cond.initialized C.1.1.cls ∈ TW ∧ Cond.code C.1.1 C.1.2.1 C.1.2.2.1 C.1.2.2.2 ∈ TW ∧ (C.1.1.cls ≠ "java/lang/invoke/MethodHandle" ∧ C.1.1.cls ≠ "java/lang/invoke/VarHandle") ∧
    (parseMethodDescriptor C.1.1.desc).map (fun d => d.parameters.length) = some (C.2.2.1.1.length - 1) ∧ C.2.1.1 + 1 ≤ fr ∧ 8 + (C.1.2.2.1 + 11) + C.2.1.2 ≤ lo ∧
    ∃ (r : zAV) (ea : List zAV) (K : zKD) (T : u_T) (N : Nat), C.2.2.1.1 = r :: ea ∧ 2 ≤ r.1 ∧ znn C.2.2.1.2.1 r = true ∧ kds[r.1 - 2]? = some K ∧ K.1 = 0 ∧ cl[K.2.1]? = some (C.1.1.cls, T, N)
def zCS (TW : List Cond) (own : String) (cc : ByteArray) (fr lo pc : Nat) (C : zCT) : Prop :=
  ∃ idx : Nat, decode cc pc = .ok (.invokestatic idx, 3) ∧ Cond.methodLink own idx C.1.1 ∈ TW ∧ Cond.static C.1.1 ∈ TW ∧ Cond.initialized C.1.1.cls ∈ TW ∧ Cond.code C.1.1 C.1.2.1 C.1.2.2.1 C.1.2.2.2 ∈ TW ∧ (C.1.1.cls ≠ "java/lang/invoke/MethodHandle" ∧ C.1.1.cls ≠ "java/lang/invoke/VarHandle") ∧
    (parseMethodDescriptor C.1.1.desc).map (fun d => d.parameters.length) = some C.2.2.1.1.length ∧ C.2.1.1 + 1 ≤ fr ∧ 8 + (C.1.2.2.1 + 11) + C.2.1.2 ≤ lo
section ZME
variable {kds : List zKD} {D : va_G} {cl : List vw_C} {cy : Nat → ClassId} {L : List Nat} {Θ : Nat → Option Nat} {nL : Nat}
variable {p : Program} {l : Launch} {e : Env} {R : Room} {s : State} {m : MethodId} {args : Array Value} {below : List Frame} {meth : Method} {c : Code}
variable {cc : ByteArray} {pc : Nat} {TW Ts : List Cond} {own : String} {KP : zKPt} {tyf : (Nat → ClassId) → List (ClassId × FieldType)}
theorem z_blind (hKP : zKPok cl tyf KP) {h : Nat → Nat → Int} {av : List Value} : FrameBlind (va_Pc av (fun U => zH η kds D cl cy L Θ h U.heap ∧ KP η D cy L Θ U)) := fun _ U g mk q => ⟨q.1, q.2.1, hKP.2.2 _ _ _ _ _ U g mk _ q.2.2⟩
theorem z_good (hg : zgoodW TW) {w0 w1 : Cond} (h1 : w1 ∈ TW) : GoodIn (w0 :: TW) (w1 :: TW) := by
  intro w hw
  rcases List.mem_cons.mp hw with rfl | hw
  · exact ⟨List.mem_cons_of_mem _ h1, hg _ h1⟩
  · exact ⟨List.mem_cons_of_mem _ hw, hg _ hw⟩
theorem z_runV (hKP : zKPok cl tyf KP) (hg : zgoodW TW) {w0 : Cond} (hTs : Ts = w0 :: TW) {C : zCT} (hM : zMet kds cl TW KP l C) (hnd : L.Nodup) (S : CallFix p m c cc nL s args Ts own) (hK : KP η D cy L Θ s) (hC : zCV kds cl TW own cc R.frames R.locals pc C) :
    zHrun η kds D cl cy L Θ (fun q => q ∈ L) s.heap nL p l e R s m args below meth c pc C := by
  intro σc h H locs ls rest hE hA hV hR hH hS hsz hcat
  obtain ⟨idx, hd, m1, m2, m3, m4, m5, m6, m7, m8, m9, r, ea, K, T, N, ee, er, en, eK, eK0, eC⟩ := hC
  have hts : ∀ w ∈ TW, w.before args s = true := fun w hw => S.2.2.2.2 w (by rw [hTs]; exact List.mem_cons_of_mem _ hw)
  have hr : zga Θ σc r := hA r (by rw [ee]; exact List.mem_cons_self)
  obtain ⟨ea1, na, Θa⟩ := z_nnr en hE hr (z_sub2 er)
  obtain ⟨q0, hq⟩ := zH_get hH Θa eK (by omega)
  rw [zE_o eK0] at hq
  have hKa := (hKP.1 _ _ _ _ _ _ hK).1
  have hrec := va_recv hKa hH.1 eC hq
  have hMM := hM η D cy L Θ h σc hnd hE hA hV hR
  have hmap : C.2.2.1.1.map (zvo η σc) = .ref (η.1 (σc.getD r.2.1 0).toNat) :: ea.map (zvo η σc) := by rw [ee, List.map_cons, ea1]
  rw [hmap] at hMM ⊢
  refine va_runV (C := C.1.1.cls) (n := C.2.2.1.1.length - 1) (As := ea.map (zvo η σc)) (bytes := C.1.2.1) (maxL := C.1.2.2.1) (ret := C.1.2.2.2) S hMM ⟨callB_of _ S.2.2.2.2 (by rw [hTs]; exact z_good hg m5) rfl rfl rfl (hts _ m4) (hts _ m1) ⟨m6.1, m6.2, m7⟩ ⟨m8, m9⟩, hts _ m2, hts _ m3⟩ ⟨z_blind hKP, hrec, fun U hU hW => ⟨rfl, by rw [hU]; exact hH, ?_⟩⟩ rfl (by rw [ee]; simp) hsz (by simp) (by simpa using hcat) hd ⟨Nat.zero_le _, Nat.zero_le _⟩
  exact hKP.2.1 _ _ _ _ _ s U hK hW (by rw [hU]; exact hS.1) (fun q h1 h2 => by rw [hU]; exact hS.2.1 q h1 h2)
theorem z_runS (hKP : zKPok cl tyf KP) (hg : zgoodW TW) {w0 : Cond} (hTs : Ts = w0 :: TW) {C : zCT} (hM : zMet kds cl TW KP l C) (hnd : L.Nodup) (S : CallFix p m c cc nL s args Ts own) (hK : KP η D cy L Θ s) (hC : zCS TW own cc R.frames R.locals pc C) :
    zHrun η kds D cl cy L Θ (fun q => q ∈ L) s.heap nL p l e R s m args below meth c pc C := by
  intro σc h H locs ls rest hE hA hV hR hH hS hsz hcat
  obtain ⟨idx, hd, m1, m2, m4, m5, m6, m7, m8, m9⟩ := hC
  have hts : ∀ w ∈ TW, w.before args s = true := fun w hw => S.2.2.2.2 w (by rw [hTs]; exact List.mem_cons_of_mem _ hw)
  have hMM := hM η D cy L Θ h σc hnd hE hA hV hR
  refine va_runS (n := C.2.2.1.1.length) (As := C.2.2.1.1.map (zvo η σc)) (bytes := C.1.2.1) (maxL := C.1.2.2.1) (ret := C.1.2.2.2) S hMM ⟨callB_of _ S.2.2.2.2 (by rw [hTs]; exact z_good hg m5) rfl rfl rfl (hts _ m4) (hts _ m1) ⟨m6.1, m6.2, m7⟩ ⟨m8, m9⟩, hts _ m2⟩ ⟨z_blind hKP, fun U hU hW => ⟨rfl, by rw [hU]; exact hH, ?_⟩⟩ rfl (by simp) hsz rfl (by simpa using hcat) hd ⟨Nat.zero_le _, Nat.zero_le _⟩
  exact hKP.2.1 _ _ _ _ _ s U hK hW (by rw [hU]; exact hS.1) (fun q h1 h2 => by rw [hU]; exact hS.2.1 q h1 h2)
end ZME
/-- the places of a method's values among its locals -/
def zargs : Nat → List zAV → List (Nat × zAV)
  | _, [] => []
  | i, a :: r => (i, a) :: zargs (i + if a.1 = 1 then 2 else 1) r
def zwid : List zAV → Nat
  | [] => 0
  | a :: r => (if a.1 = 1 then 2 else 1) + zwid r
end
section
variable {η : zRn}
/-! a method that passes the check keeps its contract -/
theorem z_args {σ : List Int} : ∀ {ea : List zAV} {i : Nat}, lv_args i (ea.map (zvo η σ)) = (zargs i ea).map (fun q => (q.1, zvo η σ q.2)) := by
  intro ea
  induction ea with
  | nil => intro i; rfl
  | cons a r ih =>
    intro i
    simp only [List.map_cons, lv_args, zargs]
    congr 1
    have hc : ((zvo η σ a).category = 2) ↔ a.1 = 1 := by
      have := z_cat (η := η) a.1 (zev σ a)
      unfold zvo
      constructor
      · intro h
        rw [h] at this
        simpa using this.symm
      · intro h
        rw [h] at this ⊢
        simpa using this
    by_cases h : a.1 = 1
    · rw [if_pos (hc.mpr h), if_pos h]
      exact ih
    · rw [if_neg (fun q => h (hc.mp q)), if_neg h]
      exact ih
theorem z_wid {σ : List Int} : ∀ {ea : List zAV}, (lg_sl (ea.map (zvo η σ))).length = zwid ea := by
  intro ea
  induction ea with
  | nil => rfl
  | cons a r ih =>
    unfold lg_sl at ih ⊢
    simp only [List.map_cons, List.flatMap_cons, List.length_append, zwid]
    rw [ih]
    congr 1
    by_cases h : a.1 = 1
    · have : (zvo η σ a).category = 2 := by
        have := z_cat (η := η) a.1 (zev σ a)
        unfold zvo
        rw [h] at this ⊢
        simpa using this
      rw [if_pos this, if_pos h]
      rfl
    · have : (zvo η σ a).category = 1 := z_cat1 _ h
      rw [this, if_neg h]
      rfl
theorem zFok_mono {own : String} {T1 T2 : List Cond} {cl : List vw_C} {q : Nat × Nat × Nat × Option FieldType} (hm : ∀ w ∈ T1, w ∈ T2) (h : zFok own T1 cl q) : zFok own T2 cl q := by
  obtain ⟨C, T, N, h1, h2, h3, h4, h5⟩ := h
  exact ⟨C, T, N, h1, fun w hw => hm w (h2 w hw), h3, hm _ h4, h5⟩
/-- a step of one's own, by its place -/
def zSpok (kds : List zKD) (cl : List vw_C) (TW : List Cond) (KP : zKPt) (tyf : (Nat → ClassId) → List (ClassId × FieldType)) (l : Launch) (own : String) (cc : ByteArray) (nL fr lo : Nat) (eff : List (Nat × Nat × Nat)) (q : Nat × Nat × (zAS → Option zAS)) : Prop :=
  ∀ (η : zRn) (D : va_G) (cy : Nat → ClassId) (L : List Nat) (Θ : Nat → Option Nat) (h0 : Nat → Nat → Int) (p : Program) (e : Env) (R : Room) (s : State) (m : MethodId) (args : Array Value) (below : List Frame) (meth : Method) (c : Code) (Q : State → Prop) (σA : List Int) (as as' : zAS),
    p.tables.exec = Jvm.exec → c.code = cc → c.maxLocals = nL → s.vm.findClass own = some m.cls → (∀ w ∈ TW, w.before args s = true) → KP η D cy L Θ s → va_K D cl (tyf cy) s → zTy cy (tyf cy) → L.Nodup → R.frames = fr → R.locals = lo →
    q.2.2 as = some as' → zGo η kds D cl cy L Θ h0 eff (fun x => x ∈ L) s.heap nL p l e R s m args below meth c Q σA (q.1 + q.2.1) as' → zGo η kds D cl cy L Θ h0 eff (fun x => x ∈ L) s.heap nL p l e R s m args below meth c Q σA q.1 as
theorem z_met {kds : List zKD} {cl : List vw_C} {TW : List Cond} {KP : zKPt} {tyf : (Nat → ClassId) → List (ClassId × FieldType)} {l : Launch} (hKP : zKPok cl tyf KP) (hg : zgoodW TW) (C : zCT) (M : zMD) (fuel : Nat) (B : Int) (hy : plainName C.1.1.cls = true) (hloc : C.2.2.1.2.2.1 = zargs 0 C.2.2.1.1) (hw : zwid C.2.2.1.1 ≤ C.1.2.2.1) (hchk : zmeth kds C M fuel B = true)
    (hcode : ∀ q ∈ M.1, decode C.1.2.1 q.1 = .ok (q.2.1, q.2.2)) (hfl : ∀ q ∈ M.2.1, zFok C.1.1.cls TW cl q) (hcs : (∀ q ∈ M.2.2.1.1, Cond.constant C.1.1.cls q.1 (Int32.ofInt q.2) ∈ TW) ∧ ∀ q ∈ M.2.2.1.2, Cond.constantLong C.1.1.cls q.1 (Int64.ofInt q.2) ∈ TW)
    (hca : ∀ q ∈ M.2.2.2.1, ∀ C' ∈ q.2, zMet kds cl TW KP l C' ∧ (zCV kds cl TW C.1.1.cls C.1.2.1 C.2.1.1 C.2.1.2 q.1 C' ∨ zCS TW C.1.1.cls C.1.2.1 C.2.1.1 C.2.1.2 q.1 C')) (hsp : ∀ q ∈ M.2.2.2.2.1, zSpok kds cl TW KP tyf l C.1.1.cls C.1.2.1 C.1.2.2.1 C.2.1.1 C.2.1.2 C.2.2.2.2 q) : zMet kds cl TW KP l C := by
  intro η D cy L Θ h σ hnd hE hA hV hR
  refine Met.ofW (cc := C.1.2.1) (maxL := C.1.2.2.1) (ret := C.1.2.2.2) hy rfl ?_
  intro p e s m args below meth c s₁ B' hml hv
  obtain ⟨rfl, hH, hK⟩ := hv
  have hts := atoms_spec (ws := Cond.code C.1.1 C.1.2.1 C.1.2.2.1 C.1.2.2.2 :: TW) B'.pre
  have hown : s.vm.findClass C.1.1.cls = some m.cls := findClass_of_methodNamed B'.named
  obtain ⟨hKa, hTy⟩ := hKP.1 _ _ _ _ _ _ hK
  have hmono : ∀ w ∈ TW, w ∈ Cond.code C.1.1 C.1.2.1 C.1.2.2.1 C.1.2.2.2 :: TW := fun w hw => List.mem_cons_of_mem _ hw
  unfold zmeth at hchk
  rw [Bool.and_eq_true] at hchk
  rw [← hE.1] at hchk
  generalize hQ : MQ below (zQ η kds D cl cy L Θ h σ C.2.2.2.1 C.2.2.2.2) (List.map (zvo η σ) C.2.2.1.1).toArray s 0 0 (fun q => q ∈ L) = Qc
  have X : zCx η kds D cl cy L Θ h C.2.2.2.2 (fun q => q ∈ L) C.1.2.2.1 p l e (headSpec (Cond.code C.1.1 C.1.2.1 C.1.2.2.1 C.1.2.2.2 :: TW) ({ frames := C.2.1.1, cells := 0, slots := 0, locals := C.2.1.2 } : Room)).room s m (List.map (zvo η σ) C.2.2.1.1).toArray below meth c C.1.2.1 σ (tyf cy) (Cond.code C.1.1 C.1.2.1 C.1.2.2.1 C.1.2.2.2 :: TW) C.1.1.cls M C.1.2.2.2 C.2.2.2.1 := by
    refine ⟨⟨B'.exec, B'.bytes, hts, hown, hKa, hTy, hnd, fun a ha => ha⟩, ⟨fun q hq => zFok_mono hmono (hfl q hq), ⟨fun q hq => hmono _ (hcs.1 q hq), fun q hq => hmono _ (hcs.2 q hq)⟩, hcode⟩, ⟨fun q hq C' hC' => ?_, fun q hq Q' σA as as' hf k => ?_⟩, B'.returns, B'.notSynchronized, fun q hq => hq⟩
    · obtain ⟨hM, hc | hc⟩ := hca q hq C' hC'
      · exact z_runV hKP hg rfl hM hnd ⟨B'.exec, B'.bytes, hml, hown, hts⟩ hK hc
      · exact z_runS hKP hg rfl hM hnd ⟨B'.exec, B'.bytes, hml, hown, hts⟩ hK hc
    · exact hsp q hq η D cy L Θ h p e _ s m _ below meth c Q' σA as as' B'.exec B'.bytes hml hown (fun w hw => hts w (hmono w hw)) hK hKa hTy hnd rfl rfl hf k
  have key : ∀ n : Nat, ∀ t ∈ M.2.2.2.2.2.1, ∀ (σ' : List Int) (h' : Nat → Nat → Int) (H : Heap) (locs : List Loc) (ls : Array Slot), (∃ κ, σ' = σ ++ κ) → zG η kds D cl cy L Θ h C.2.2.2.2 (fun q => q ∈ L) s.heap C.1.2.2.1 t.2.1 σ' h' H locs ls → zrk σ' t.2.2 < (n : Int) →
      W p l e (headSpec (Cond.code C.1.1 C.1.2.1 C.1.2.2.1 C.1.2.2.2 :: TW) ({ frames := C.2.1.1, cells := 0, slots := 0, locals := C.2.1.2 } : Room)).room s m (List.map (zvo η σ) C.2.2.1.1).toArray below meth c H locs 0 0 Qc (F0 m t.1 ls (t.2.1.2.2.1.map (zvo η σ'))) := by
    intro n
    induction n with
    | zero =>
      intro t ht σ' h' H locs ls hp g hlt
      have := List.all_eq_true.mp hchk.2 t ht
      simp only [Bool.and_eq_true] at this
      have := z_pos g.1 this.1.1
      omega
    | succ n ih =>
      intro t ht σ' h' H locs ls hp g hlt
      have hc := List.all_eq_true.mp hchk.2 t ht
      simp only [Bool.and_eq_true] at hc
      have hsy : ∀ q ∈ t.2.2.2, q.1 < σ'.length := fun q hq => by
        rw [g.1.1]
        exact of_decide_eq_true (List.all_eq_true.mp hc.1.2 q hq)
      have w := z_exs (σA := σ') hQ.symm X (fun pc as hh => z_chk hQ.symm X hp hsy (fun t2 ht2 σ2 h2 H2 locs2 ls2 hp2 g2 hl2 => ih t2 ht2 σ2 h2 H2 locs2 ls2 hp2 g2 (by omega)) hh) hp hc.2
      have := w [] h' H locs ls (by rw [List.append_nil]; exact g)
      rw [List.append_nil] at this
      exact this
  have hl := lv_entry (List.map (zvo η σ) C.2.2.1.1) (n := C.1.2.2.1) (by rw [z_wid]; exact hw)
  rw [lg_entry_eq]
  generalize (lg_sl (List.map (zvo η σ) C.2.2.1.1) ++ List.replicate (C.1.2.2.1 - (lg_sl (List.map (zvo η σ) C.2.2.1.1)).length) Slot.unset).toArray = ls at hl ⊢
  rw [z_args, ← hloc] at hl
  have hgl : ∀ q ∈ C.2.2.1.2.2.1, zga Θ σ q.2 := by
    rw [hloc]
    have : ∀ {ea : List zAV} {i : Nat}, (∀ a ∈ ea, zga Θ σ a) → ∀ q ∈ zargs i ea, zga Θ σ q.2 := by
      intro ea
      induction ea with
      | nil => intro i _ q hq; cases hq
      | cons a r ih =>
        intro i ha q hq
        simp only [zargs] at hq
        rcases List.mem_cons.mp hq with rfl | hq
        · exact ha a List.mem_cons_self
        · exact ih (fun b hb => ha b (List.mem_cons_of_mem _ hb)) q hq
    exact this hA
  have w := z_chk (σA := σ) hQ.symm X ⟨[], (List.append_nil σ).symm⟩ (rk := (B, [])) (fun q hq => by cases hq) (fun t2 ht2 σ2 h2 H2 locs2 ls2 hp2 g2 hl2 => key B.toNat t2 ht2 σ2 h2 H2 locs2 ls2 hp2 g2 (by
    have e1 : zrk σ (B, []) = B := by unfold zrk; simp [zsum]
    rw [e1] at hl2
    omega)) hchk.1
  have := w [] h s.heap [] ls (by
    rw [List.append_nil]
    exact ⟨hE, hgl, hl, fun _ hq => (by cases hq), hV, hR, hH, va_S.rf, fun _ _ _ _ _ => rfl⟩)
  exact this
end
