variable {η : zRn}
/-! calls by contract -/
/-- what a method's end says: one of its outcomes -/
def zQ (η : zRn) (kds : List zKD) (D : va_G) (cl : List vw_C) (cy : Nat → ClassId) (L : List Nat) (Θ : Nat → Option Nat) (h : Nat → Nat → Int) (σ : List Int) (outs : List zAS) (eff : List (Nat × Nat × Nat)) : Array Value → State → Outcome → State → Prop := fun _ st oc t =>
  ∃ (v : Option Value) (out : zAS) (ρ : List Int) (h' : Nat → Nat → Int), oc = .returned v ∧ out ∈ outs ∧ zge (σ ++ ρ) out.1 ∧ (∀ a ∈ out.2.2.1, zga Θ (σ ++ ρ) a) ∧ v.toList = out.2.2.1.map (zvo η (σ ++ ρ)) ∧ zgv Θ h' (σ ++ ρ) out.2.2.2.1 ∧ zgr (σ ++ ρ) out.2.2.2.2 ∧
    zH η kds D cl cy L Θ h' t.heap ∧ (∀ a k j, Θ a = some k → zinE eff k j j = false → h' a j = h a j) ∧ va_F (fun q => q ∈ L) st t
/-- the callee's symbols and the new ones behind it -/
def zsx (sub : zSB) (n len m : Nat) : zSB := sub ++ (List.range m).map (fun t => (n + t, len + t, 0))
def ztr (sub : zSB) (a : zAV) : Option zAV := match zsb sub a.2.1 with
  | some x => some (a.1, x.1, x.2 + a.2.2)
  | none => none
theorem z_sbapp {s1 s2 : zSB} {j : Nat} : zsb (s1 ++ s2) j = match zsb s1 j with
    | some x => some x
    | none => zsb s2 j := by
  induction s1 with
  | nil => rfl
  | cons q r ih =>
    obtain ⟨k, x⟩ := q
    simp only [List.cons_append, zsb]
    split
    · rfl
    · exact ih
theorem z_sbr {n len : Nat} : ∀ {l : List Nat} {j : Nat} {x : Nat × Int}, zsb (l.map (fun t => (n + t, len + t, 0))) j = some x → ∃ t ∈ l, j = n + t ∧ x = (len + t, 0) := by
  intro l
  induction l with
  | nil => intro j x h; cases h
  | cons q r ih =>
    intro j x h
    simp only [List.map_cons] at h
    unfold zsb at h
    split at h
    · rename_i e
      cases h
      exact ⟨q, List.mem_cons_self, e.symm, rfl⟩
    · obtain ⟨t, h1, h2⟩ := ih h
      exact ⟨t, List.mem_cons_of_mem _ h1, h2⟩
/-- a symbol of the callee's end, seen by the caller -/
theorem z_sx {σ ρ : List Int} {sub : zSB} {n j : Nat} {x : Nat × Int} (hn : ∀ j x, zsb sub j = some x → j < n ∧ x.1 < σ.length) (h : zsb (zsx sub n σ.length ρ.length) j = some x) : x.1 < (σ ++ ρ).length ∧ (zmap σ sub n ++ ρ).getD j 0 = (σ ++ ρ).getD x.1 0 + x.2 := by
  unfold zsx at h
  rw [z_sbapp] at h
  split at h
  · rename_i y hy
    cases h
    obtain ⟨h1, h2⟩ := hn _ _ hy
    refine ⟨by rw [List.length_append]; omega, ?_⟩
    rw [z_gd (by rw [z_mapl]; exact h1), z_mapg h1, z_gd h2]
    unfold zsg
    rw [hy]
  · obtain ⟨t, h1, rfl, rfl⟩ := z_sbr h
    have ht : t < ρ.length := List.mem_range.mp h1
    refine ⟨by rw [List.length_append]; simp only; omega, ?_⟩
    simp only [List.getD_eq_getElem?_getD]
    rw [List.getElem?_append_right (by rw [z_mapl]; omega), List.getElem?_append_right (by omega), z_mapl]
    rw [show n + t - n = t by omega, show σ.length + t - σ.length = t by omega]
    simp
theorem z_tr {Θ : Nat → Option Nat} {σ ρ : List Int} {sub : zSB} {n : Nat} {a b : zAV} (hn : ∀ j x, zsb sub j = some x → j < n ∧ x.1 < σ.length) (h : ztr (zsx sub n σ.length ρ.length) a = some b) (ga : zga Θ (zmap σ sub n ++ ρ) a) : zga Θ (σ ++ ρ) b ∧ zev (σ ++ ρ) b = zev (zmap σ sub n ++ ρ) a ∧ zvo η (σ ++ ρ) b = zvo η (zmap σ sub n ++ ρ) a := by
  unfold ztr at h
  split at h
  · rename_i x hx
    cases h
    obtain ⟨h1, h2⟩ := z_sx hn hx
    have ev : zev (σ ++ ρ) (a.1, x.1, x.2 + a.2.2) = zev (zmap σ sub n ++ ρ) a := by
      unfold zev
      rw [h2]
      simp only
      omega
    refine ⟨⟨h1, by rw [ev]; exact ga.2⟩, ev, ?_⟩
    unfold zvo
    rw [ev]
  · cases h
/-- the caller's bounds, narrowed by what the callee's end says of its first symbols -/
def zrfn (sub : zSB) (oe : List zIV) : Nat → List zIV → List zIV
  | 0, env => env
  | j + 1, env => match zsb sub j, oe[j]? with
    | some x, some q => (match (zrfn sub oe j env)[x.1]? with
      | some b => (zrfn sub oe j env).set x.1 (max b.1 (q.1 - x.2), min b.2 (q.2 - x.2))
      | none => zrfn sub oe j env)
    | _, _ => zrfn sub oe j env
theorem z_rfnl {sub : zSB} {oe : List zIV} : ∀ {j : Nat} {env : List zIV}, (zrfn sub oe j env).length = env.length := by
  intro j
  induction j with
  | zero => intro env; rfl
  | succ j ih =>
    intro env
    unfold zrfn
    split
    · split
      · rw [List.length_set, ih]
      · exact ih
    · exact ih
theorem z_rfn {σ ρ : List Int} {sub : zSB} {n : Nat} {oe : List zIV} (hn : ∀ j x, zsb sub j = some x → j < n ∧ x.1 < σ.length) (hoe : zge (zmap σ sub n ++ ρ) oe) : ∀ {j : Nat} {env : List zIV}, zge σ env → zge σ (zrfn sub oe j env) := by
  intro j
  induction j with
  | zero => intro env h; exact h
  | succ j ih =>
    intro env h
    unfold zrfn
    split
    · rename_i x q hx hq
      split
      · rename_i b hb
        have h1 := ih h
        have h2 := h1.2 _ _ hb
        have h3 := hoe.2 _ _ hq
        obtain ⟨hj, hi⟩ := hn _ _ hx
        rw [z_gd (by rw [z_mapl]; exact hj), z_mapg hj] at h3
        unfold zsg at h3
        rw [hx] at h3
        simp only at h3
        exact z_set h1 (by simp only; omega) (by simp only; omega)
      · exact ih h
    · exact ih h
def ztrs (sub : zSB) : List zAV → Option (List zAV)
  | [] => some []
  | a :: r => match ztr sub a, ztrs sub r with
    | some b, some t => some (b :: t)
    | _, _ => none
def ztrv (sub : zSB) : List zOV → Option (List zOV)
  | [] => some []
  | ((k, j), sl, v) :: r => match zsb sub j, ztr sub v, ztrv sub r with
    | some x, some w, some t => if x.2 = 0 then some (((k, x.1), sl, w) :: t) else none
    | _, _, _ => none
def ztrr (sub : zSB) : List (Nat × Nat × Int) → Option (List (Nat × Nat × Int))
  | [] => some []
  | (i, b, r) :: t => match zsb sub i, zsb sub b, ztrr sub t with
    | some x, some y, some u => some ((x.1, y.1, r + y.2 - x.2) :: u)
    | _, _, _ => none
section ZTR
variable {Θ : Nat → Option Nat} {σ ρ : List Int} {sub : zSB} {n : Nat}
theorem z_trs (hn : ∀ j x, zsb sub j = some x → j < n ∧ x.1 < σ.length) : ∀ {st st' : List zAV}, ztrs (zsx sub n σ.length ρ.length) st = some st' → (∀ a ∈ st, zga Θ (zmap σ sub n ++ ρ) a) → (∀ a ∈ st', zga Θ (σ ++ ρ) a) ∧ st'.map (zvo η (σ ++ ρ)) = st.map (zvo η (zmap σ sub n ++ ρ)) := by
  intro st
  induction st with
  | nil =>
    intro st' h g
    cases h
    exact ⟨fun _ h => (by cases h), rfl⟩
  | cons a r ih =>
    intro st' h g
    unfold ztrs at h
    split at h
    · rename_i b t hb ht
      cases h
      obtain ⟨e1, -, e3⟩ := z_tr hn hb (g a List.mem_cons_self)
      obtain ⟨f1, f2⟩ := ih ht (fun b hb => g b (List.mem_cons_of_mem _ hb))
      refine ⟨fun q hq => ?_, by rw [List.map_cons, List.map_cons, e3, f2]⟩
      rcases List.mem_cons.mp hq with rfl | hq
      · exact e1
      · exact f1 q hq
    · cases h
theorem z_trv {h : Nat → Nat → Int} (hn : ∀ j x, zsb sub j = some x → j < n ∧ x.1 < σ.length) : ∀ {ov ov' : List zOV}, ztrv (zsx sub n σ.length ρ.length) ov = some ov' → zgv Θ h (zmap σ sub n ++ ρ) ov → zgv Θ h (σ ++ ρ) ov' := by
  intro ov
  induction ov with
  | nil =>
    intro ov' h g
    cases h
    intro o ho
    cases ho
  | cons q r ih =>
    intro ov' h' g
    obtain ⟨⟨k, j⟩, sl, v⟩ := q
    unfold ztrv at h'
    split at h'
    · rename_i x w t hx hw ht
      split at h'
      · rename_i h0
        cases h'
        obtain ⟨g1, g2, g3, g4, g5⟩ := g _ List.mem_cons_self
        simp only at g1 g2 g3 g4 g5
        obtain ⟨e1, e2, -⟩ := z_tr (η := ((id, id) : zRn)) hn hw g2
        obtain ⟨f1, f2⟩ := z_sx hn hx
        rw [h0, Int.add_zero] at f2
        intro o ho
        rcases List.mem_cons.mp ho with rfl | ho
        · refine ⟨f1, e1, ?_⟩
          simp only
          rw [← f2, e2]
          exact ⟨g3, g4, g5⟩
        · exact ih ht (fun o ho => g o (List.mem_cons_of_mem _ ho)) o ho
      · cases h'
    · cases h'
theorem z_trr (hn : ∀ j x, zsb sub j = some x → j < n ∧ x.1 < σ.length) : ∀ {rel rel' : List (Nat × Nat × Int)}, ztrr (zsx sub n σ.length ρ.length) rel = some rel' → zgr (zmap σ sub n ++ ρ) rel → zgr (σ ++ ρ) rel' := by
  intro rel
  induction rel with
  | nil =>
    intro rel' h g
    cases h
    intro o ho
    cases ho
  | cons q r ih =>
    intro rel' h' g
    obtain ⟨i, b, t⟩ := q
    unfold ztrr at h'
    split at h'
    · rename_i x y u hx hy hu
      cases h'
      obtain ⟨f1, f2⟩ := z_sx hn hx
      obtain ⟨g1, g2⟩ := z_sx hn hy
      have := (g _ List.mem_cons_self).2.2
      simp only at this
      intro o ho
      rcases List.mem_cons.mp ho with rfl | ho
      · refine ⟨f1, g1, ?_⟩
        simp only
        omega
      · exact ih hu (fun o ho => g o (List.mem_cons_of_mem _ ho)) o ho
    · cases h'
end ZTR
/-- the caller's state behind an outcome -/
def zaft (as : zAS) (st : List zAV) (sub : zSB) (n : Nat) (effC : List (Nat × Nat × Nat)) (out : zAS) : Option zAS :=
  match ztrs (zsx sub n as.1.length (out.1.length - n)) out.2.2.1, ztrv (zsx sub n as.1.length (out.1.length - n)) out.2.2.2.1, ztrr (zsx sub n as.1.length (out.1.length - n)) out.2.2.2.2 with
  | some s', some v', some r' => some (zrfn sub out.1 n as.1 ++ out.1.drop n, as.2.1, s' ++ st, v' ++ as.2.2.2.1.filter (fun o => !(zinE effC o.1.1 o.2.1 o.2.1)), r' ++ as.2.2.2.2)
  | _, _, _ => none
theorem z_inc {e1 e2 : List (Nat × Nat × Nat)} (h : e1.all (fun e => zinE e2 e.1 e.2.1 e.2.2) = true) {k j : Nat} (hk : zinE e2 k j j = false) : zinE e1 k j j = false := by
  cases hc : zinE e1 k j j with
  | false => rfl
  | true =>
    unfold zinE at hc
    rw [List.any_eq_true] at hc
    obtain ⟨e, he, hc⟩ := hc
    simp only [Bool.and_eq_true, decide_eq_true_eq] at hc
    obtain ⟨⟨rfl, h1⟩, h2⟩ := hc
    have := z_iE (List.all_eq_true.mp h e he) h1 h2
    rw [this] at hk
    cases hk
section ZCA
variable {kds : List zKD} {D : va_G} {cl : List vw_C} {cy : Nat → ClassId} {L : List Nat} {Θ : Nat → Option Nat} {h0 : Nat → Nat → Int} {eff : List (Nat × Nat × Nat)} {A : Nat → Prop} {H0 : Heap} {nL : Nat}
variable {p : Program} {l : Launch} {e : Env} {R : Room} {s : State} {m : MethodId} {args : Array Value} {below : List Frame} {meth : Method} {c : Code} {Q : State → Prop}
variable {σA : List Int} {pc : Nat} {as : zAS}
theorem zgo_call (hLA : ∀ a ∈ L, A a) {ac : List zAV} {st : List zAV} (hs : as.2.2.1 = ac.reverse ++ st) (hst : (st.map (fun a => if a.1 = 1 then 2 else 1)).sum ≤ 8)
    {ea : List zAV} {ent : zAS} {outs : List zAS} {effC : List (Nat × Nat × Nat)} {sub : zSB}
    (hm : zmt 0 (as.1, as.2.1, ac, as.2.2.2.1, as.2.2.2.2) (ent.1, [], ea, ent.2.2.2.1, ent.2.2.2.2) sub = true) (hsl : sub.all (fun q => decide (q.2.1 < as.1.length)) = true) (heff : effC.all (fun q => zinE eff q.1 q.2.1 q.2.2) = true) (hlo : outs.all (fun o => decide (ent.1.length ≤ o.1.length)) = true)
    (hrun : ∀ (σc : List Int) (h : Nat → Nat → Int) (H : Heap) (locs : List Loc) (ls : Array Slot) (rest : List Value), zge σc ent.1 → (∀ a ∈ ea, zga Θ σc a) → zgv Θ h σc ent.2.2.2.1 → zgr σc ent.2.2.2.2 → zH η kds D cl cy L Θ h H → va_S A H0 H locs → ls.size = nL → (rest.map (fun v => v.category)).sum ≤ 8 →
      va_Run p l e R s m args below meth c H locs 0 0 0 0 (F0 m pc ls ((ea.map (zvo η σc)).reverse ++ rest)) rest (zQ η kds D cl cy L Θ h σc outs effC (ea.map (zvo η σc)).toArray) (fun q => q ∈ L))
    (k : ∀ out ∈ outs, ∃ as', zaft as st sub ent.1.length effC out = some as' ∧ zGo η kds D cl cy L Θ h0 eff A H0 nL p l e R s m args below meth c Q σA (pc + 3) as') :
    zGo η kds D cl cy L Θ h0 eff A H0 nL p l e R s m args below meth c Q σA pc as := by
  intro τ h H locs ls g
  have g0 := g
  obtain ⟨gE, gL, hl, gS, gV, gR, gH, gF, gX⟩ := g
  rw [hs] at gS ⊢
  have gst : ∀ a ∈ st, zga Θ (σA ++ τ) a := fun a ha => gS a (List.mem_append_right _ ha)
  have gac : ∀ a ∈ ac, zga Θ (σA ++ τ) a := fun a ha => gS a (List.mem_append_left _ (List.mem_reverse.mpr ha))
  have gm := z_mt (σ0 := []) (ρ := σA ++ τ) (kds := kds) (D := D) (cl := cl) (cy := cy) (L := L) (h0 := h0) (eff := eff) (A := A) (H0 := H0) (nL := nL) hm (Nat.zero_le _) (zG_stk (as := as) g0 gac)
  simp only [List.nil_append] at gm
  obtain ⟨-, ⟨mE, -, -, mS, mV, mR, -, -, -⟩, mst⟩ := gm
  have hn : ∀ j x, zsb sub j = some x → j < ent.1.length ∧ x.1 < (σA ++ τ).length := by
    intro j x hx
    unfold zmt at hm
    simp only [Bool.and_eq_true] at hm
    refine ⟨z_ckn hm.1.1.1.1.1.1 j x hx, ?_⟩
    rw [gE.1]
    have : ∀ {sb : zSB}, sb.all (fun q => decide (q.2.1 < as.1.length)) = true → zsb sb j = some x → x.1 < as.1.length := by
      intro sb
      induction sb with
      | nil => intro _ h; cases h
      | cons q r ih =>
        obtain ⟨i, y⟩ := q
        intro h1 h2
        simp only [List.all_cons, Bool.and_eq_true, decide_eq_true_eq] at h1
        unfold zsb at h2
        split at h2
        · cases h2
          exact h1.1
        · exact ih h1.2 h2
    exact this hsl hx
  have hcat : ((st.map (zvo η (σA ++ τ))).map (fun v => v.category)).sum ≤ 8 := by
    refine Nat.le_trans (Nat.le_of_eq ?_) hst
    rw [List.map_map]
    congr 1
    apply List.map_congr_left
    intro a _
    simp only [Function.comp]
    unfold zvo
    split
    · rename_i e
      have := z_cat (η := η) a.1 (zev (σA ++ τ) a)
      rw [e] at this ⊢
      simpa using this
    · rename_i e
      exact z_cat1 _ e
  have hr := hrun (zmap (σA ++ τ) sub ent.1.length) h H locs ls (st.map (zvo η (σA ++ τ))) mE mS mV mR gH gF hl.1 hcat
  rw [mst] at hr
  rw [List.map_append, List.map_reverse]
  intro T hT X
  obtain ⟨v, st₀, t, T', L', hh0, X', hL', e1, e2, ⟨v', out, ρ, h', hv, ho, oE, oS, ov, oV, oR, oH, oX, oF⟩, stp⟩ := hr T hT X
  cases hv
  obtain ⟨as', has, hk⟩ := k out ho
  have hlo' := of_decide_eq_true (List.all_eq_true.mp hlo out ho)
  have hρ : ρ.length = out.1.length - ent.1.length := by
    have := oE.1
    rw [List.length_append, z_mapl] at this
    omega
  unfold zaft at has
  rw [← hρ, ← gE.1] at has
  split at has
  · rename_i s' v' r' hs' hv' hr'
    cases has
    obtain ⟨a1, a2⟩ := z_trs (Θ := Θ) hn hs' oS
    have b1 := z_trv hn hv' oV
    have c1 := z_trr hn hr' oR
    have nE : zge ((σA ++ τ) ++ ρ) (zrfn sub out.1 ent.1.length as.1 ++ out.1.drop ent.1.length) := by
      have r1 := z_rfn hn oE (j := ent.1.length) gE
      refine ⟨by rw [List.length_append, gE.1, List.length_append, List.length_drop, z_rfnl, hρ], fun i q hi => ?_⟩
      by_cases hlt : i < as.1.length
      · rw [List.getElem?_append_left (by rw [z_rfnl]; exact hlt)] at hi
        rw [z_gd (by rw [gE.1]; exact hlt)]
        exact r1.2 i q hi
      · rw [List.getElem?_append_right (by rw [z_rfnl]; omega), z_rfnl, List.getElem?_drop] at hi
        have := oE.2 _ _ hi
        have eq : (zmap (σA ++ τ) sub ent.1.length ++ ρ).getD (ent.1.length + (i - as.1.length)) 0 = ((σA ++ τ) ++ ρ).getD i 0 := by
          simp only [List.getD_eq_getElem?_getD]
          rw [List.getElem?_append_right (by rw [z_mapl]; omega), List.getElem?_append_right (by rw [gE.1]; omega), z_mapl, gE.1]
          congr 2
          omega
        rw [eq] at this
        exact this
    have g' : zG η kds D cl cy L Θ h0 eff A H0 nL (zrfn sub out.1 ent.1.length as.1 ++ out.1.drop ent.1.length, as.2.1, s' ++ st, v' ++ as.2.2.2.1.filter (fun o => !(zinE effC o.1.1 o.2.1 o.2.1)), r' ++ as.2.2.2.2) (σA ++ (τ ++ ρ)) h' t.heap (locs ++ L') ls := by
      rw [← List.append_assoc]
      refine ⟨nE, fun q hq => z_ga (gL q hq), z_lv gL hl, ?_, ?_, ?_, oH, ?_, ?_⟩
      · intro a ha
        rcases List.mem_append.mp ha with ha | ha
        · exact a1 a ha
        · exact z_ga (gst a ha)
      · intro o hoo
        rcases List.mem_append.mp hoo with hoo | hoo
        · exact b1 o hoo
        · obtain ⟨h1, h2⟩ := List.mem_filter.mp hoo
          obtain ⟨g1, g2, g3, g4, g5⟩ := z_gv (τ := ρ) gV o h1
          refine ⟨g1, g2, g3, g4, ?_⟩
          rw [oX _ _ _ g4 (by simpa using h2)]
          exact g5
      · intro r hr
        rcases List.mem_append.mp hr with hr | hr
        · exact c1 r hr
        · exact z_gr gR r hr
      · refine ⟨Nat.le_trans gF.1 (by rw [← hh0]; exact oF.1), fun q hq hA => ?_, fun q hq => ?_⟩
        · have hq' : q < st₀.heap.size := by rw [hh0]; exact Nat.lt_of_lt_of_le hq gF.1
          rw [oF.2 q hq' (fun hL => hA (hLA q hL)), hh0]
          exact gF.2.1 q hq hA
        · rcases List.mem_append.mp hq with hq | hq
          · exact gF.2.2 q hq
          · exact hLA _ (hL' q hq)
      · intro a k j ha hj
        rw [oX a k j ha (z_inc heff hj)]
        exact gX a k j ha hj
    have w := hk (τ ++ ρ) h' t.heap (locs ++ L') ls g'
    simp only [← List.append_assoc] at w
    rw [List.map_append, a2, z_st gst, ← ov] at w
    obtain ⟨t2, q1, q2⟩ := w T' e1 X'
    exact ⟨t2, stp t2 q1, q2⟩
  · cases has
end ZCA
