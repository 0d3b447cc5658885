variable {η : zRn}
/-! the checker is sound -/
section ZSD
variable {kds : List zKD} {D : va_G} {cl : List vw_C} {cy : Nat → ClassId} {L : List Nat} {Θ : Nat → Option Nat} {h0 : Nat → Nat → Int} {eff : List (Nat × Nat × Nat)} {A : Nat → Prop} {H0 : Heap} {nL : Nat}
variable {p : Program} {l : Launch} {e : Env} {R : Room} {s : State} {m : MethodId} {args : Array Value} {below : List Frame} {meth : Method} {c : Code} {Q : State → Prop}
variable {cc : ByteArray} {σ0 σA : List Int} {pc : Nat} {as as' : zAS} {tys : List (ClassId × FieldType)} {Ts : List Cond} {own : String} {M : zMD} {ret : Option FieldType} {outs : List zAS}
theorem zgo_tch {st : List zAV} {loc : List (Nat × zAV)} {rel : List (Nat × Nat × Int)} : ∀ {l2 : List zOV} {env : List zIV} {ov : List zOV} {sub : zSB},
    zGo η kds D cl cy L Θ h0 eff A H0 nL p l e R s m args below meth c Q σA pc ((ztch kds st l2 env ov sub).1, loc, st, (ztch kds st l2 env ov sub).2.1, rel) → zGo η kds D cl cy L Θ h0 eff A H0 nL p l e R s m args below meth c Q σA pc (env, loc, st, ov, rel) := by
  intro l2
  induction l2 with
  | nil => intro env ov sub k; exact k
  | cons q r ih =>
    intro env ov sub k
    obtain ⟨⟨kk, j⟩, sl, v'⟩ := q
    unfold ztch at k
    split at k
    · rename_i x hx
      split at k
      · rename_i hc
        simp only [Bool.and_eq_true, decide_eq_true_eq] at hc
        split at k
        · rename_i y hy
          have k2 := ih k
          intro τ h H locs ls g
          obtain ⟨gE, gL, hl, gS, gV, gR, gH, gF, gX⟩ := g
          simp only at gE gL hl gS gV gR
          have ev := hc.2
          unfold zevd at ev
          rw [Bool.and_eq_true, Bool.or_eq_true] at ev
          have hga : zga Θ (σA ++ τ) (kk + 2, x.1, 0) := by
            rcases ev.1 with h1 | h1
            · rw [List.any_eq_true] at h1
              obtain ⟨a, ha, h1⟩ := h1
              have := of_decide_eq_true h1
              subst this
              exact gS _ ha
            · rw [List.any_eq_true] at h1
              obtain ⟨o, ho, h1⟩ := h1
              have := of_decide_eq_true h1
              have g2 := (gV o ho).2.1
              rw [this] at g2
              exact g2
          have hlo : 0 ≤ (σA ++ τ).getD x.1 0 := by
            have h2 := ev.2
            split at h2
            · rename_i q hq
              have := gE.2 _ _ hq
              have := of_decide_eq_true h2
              omega
            · cases h2
          have hΘ : Θ ((σA ++ τ).getD x.1 0).toNat = some kk := by
            rcases z_rr (η := η) hga rfl with ⟨e1, -⟩ | ⟨-, e2, -⟩
            · unfold zev at e1
              simp only at e1
              omega
            · unfold zev at e2
              simp only [Int.add_zero] at e2
              exact e2
          obtain ⟨τ', gE', gV', -, -, -⟩ := z_rd hy gE gV gH hga.1 hlo hΘ
          have w := k2 (τ ++ τ') h H locs ls ⟨by rw [← List.append_assoc]; exact gE', fun q hq => by rw [← List.append_assoc]; exact z_ga (gL q hq), by rw [← List.append_assoc]; exact z_lv gL hl, fun q hq => by rw [← List.append_assoc]; exact z_ga (gS q hq), by rw [← List.append_assoc]; exact gV', by rw [← List.append_assoc]; exact z_gr gR, gH, gF, gX⟩
          rw [← List.append_assoc] at w
          simp only at w ⊢
          rw [z_st gS] at w
          exact w
        · exact k
      · exact k
    · exact k
theorem zgo_emp (h : zemp as.1 = true) : zGo η kds D cl cy L Θ h0 eff A H0 nL p l e R s m args below meth c Q σA pc as := by
  intro τ h' H locs ls g
  exfalso
  unfold zemp at h
  rw [List.any_eq_true] at h
  obtain ⟨q, hq, h⟩ := h
  obtain ⟨i, hi⟩ := List.getElem?_of_mem hq
  have := g.1.2 i q hi
  have := of_decide_eq_true h
  omega
/-- what a call by a contract needs -/
def zHrun (η : zRn) (kds : List zKD) (D : va_G) (cl : List vw_C) (cy : Nat → ClassId) (L : List Nat) (Θ : Nat → Option Nat) (A : Nat → Prop) (H0 : Heap) (nL : Nat) (p : Program) (l : Launch) (e : Env) (R : Room) (s : State) (m : MethodId) (args : Array Value) (below : List Frame) (meth : Method) (c : Code) (pc : Nat) (C : zCT) : Prop :=
  ∀ (σc : List Int) (h : Nat → Nat → Int) (H : Heap) (locs : List Loc) (ls : Array Slot) (rest : List Value), zge σc C.2.2.1.2.1 → (∀ a ∈ C.2.2.1.1, zga Θ σc a) → zgv Θ h σc C.2.2.1.2.2.2.2.1 → zgr σc C.2.2.1.2.2.2.2.2 → zH η kds D cl cy L Θ h H → va_S A H0 H locs → ls.size = nL → (rest.map (fun v => v.category)).sum ≤ 8 →
    va_Run p l e R s m args below meth c H locs 0 0 0 0 (F0 m pc ls ((C.2.2.1.1.map (zvo η σc)).reverse ++ rest)) rest (zQ η kds D cl cy L Θ h σc C.2.2.2.1 C.2.2.2.2 (C.2.2.1.1.map (zvo η σc)).toArray) (fun q => q ∈ L)
theorem zgo_cal (hLA : ∀ a ∈ L, A a) {C : zCT} {K : zAS → Bool} (hrun : zHrun η kds D cl cy L Θ A H0 nL p l e R s m args below meth c pc C) (hK : ∀ as', K as' = true → zGo η kds D cl cy L Θ h0 eff A H0 nL p l e R s m args below meth c Q σA (pc + 3) as') (h : zcal kds eff as C K = true) : zGo η kds D cl cy L Θ h0 eff A H0 nL p l e R s m args below meth c Q σA pc as := by
  unfold zcal zcal2 zcal1 at h
  simp only [Bool.and_eq_true] at h
  obtain ⟨⟨⟨⟨⟨h1, h2⟩, h3⟩, h4⟩, h5⟩, h6⟩ := h
  have e : as = (as.1, as.2.1, as.2.2.1, as.2.2.2.1, as.2.2.2.2) := rfl
  rw [e]
  refine zgo_tch (l2 := C.2.2.1.2.2.2.2.1) (sub := zads [(0, 0, 0)] C.2.2.1.1 (as.2.2.1.take C.2.2.1.1.length).reverse) ?_
  refine zgo_call hLA (ac := (as.2.2.1.take C.2.2.1.1.length).reverse) (st := as.2.2.1.drop C.2.2.1.1.length) ?_ (of_decide_eq_true h5) (ea := C.2.2.1.1) (ent := C.2.2.1.2) (outs := C.2.2.2.1) (effC := C.2.2.2.2) h1 h2 h3 h4 hrun ?_
  · simp only [List.reverse_reverse, List.take_append_drop]
  · intro out ho
    have := List.all_eq_true.mp h6 out ho
    split at this
    · rename_i as' has
      exact ⟨as', has, hK as' this⟩
    · cases this
theorem z_ob {o : Option (List zIV)} {st : List zAV} {K : zAS → Bool} {pc' : Nat} (hK : ∀ as', K as' = true → zGo η kds D cl cy L Θ h0 eff A H0 nL p l e R s m args below meth c Q σA pc' as') (h : zob o as st K = true) : ∀ env', o = some env' → zGo η kds D cl cy L Θ h0 eff A H0 nL p l e R s m args below meth c Q σA pc' (env', as.2.1, st, as.2.2.2) := by
  intro env' he
  subst he
  exact hK _ h
theorem z_tgk {K : Nat → zAS → Bool} {off : Int} {tgt : Nat} (hK : ∀ pc as, K pc as = true → zGo η kds D cl cy L Θ h0 eff A H0 nL p l e R s m args below meth c Q σA pc as) (ht : ((pc : Int) + off).toNat = tgt) : ∀ as', ztg pc off K as' = true → zGo η kds D cl cy L Θ h0 eff A H0 nL p l e R s m args below meth c Q σA tgt as' := by
  intro as' h
  unfold ztg at h
  rw [Bool.and_eq_true] at h
  rw [← ht]
  exact hK _ _ h.2
theorem z_sw {K : Nat → zAS → Bool} {lo : Int} {a : zAV} {st : List zAV} : ∀ {offs : List Int} {i : Nat}, zsw pc lo as a st K i offs = true → ∀ (j : Nat) (off : Int), offs[j]? = some off → zob (zbr 4 as.1 a (0, 0, lo + ((i + j : Nat) : Int))) as st (ztg pc off K) = true := by
  intro offs
  induction offs with
  | nil => intro i _ j off h; simp at h
  | cons o r ih =>
    intro i h j off hj
    unfold zsw at h
    rw [Bool.and_eq_true] at h
    cases j with
    | zero =>
      simp at hj
      subst hj
      exact h.1
    | succ j =>
      have := ih h.2 j off (by simpa using hj)
      rw [show i + (j + 1) = i + 1 + j by omega]
      exact this
theorem z_lc {x y : Int64} (cd : Nat) : zcmp cd (lg_cmp x y).toInt 0 ↔ zcmp cd x.toInt y.toInt := by
  have key : ((lg_cmp x y).toInt = 1 ∧ y.toInt < x.toInt) ∨ ((lg_cmp x y).toInt = 0 ∧ x.toInt = y.toInt) ∨ ((lg_cmp x y).toInt = -1 ∧ x.toInt < y.toInt) := by
    unfold lg_cmp
    by_cases h1 : x > y
    · rw [if_pos h1]
      exact Or.inl ⟨rfl, Int64.lt_iff_toInt_lt.mp h1⟩
    · rw [if_neg h1]
      by_cases h2 : x = y
      · rw [if_pos h2]
        exact Or.inr (Or.inl ⟨rfl, by rw [h2]⟩)
      · rw [if_neg h2]
        refine Or.inr (Or.inr ⟨rfl, ?_⟩)
        have h3 : ¬ y.toInt < x.toInt := fun q => h1 (Int64.lt_iff_toInt_lt.mpr q)
        have h4 : ¬ x.toInt = y.toInt := fun q => h2 (Int64.toInt_inj.mp q)
        omega
  unfold zcmp
  split <;> omega
theorem z_cl {σ : List Int} {a : zAV} (h : zga Θ σ a) (ht : a.1 = 1) : ∃ x : Int64, zvo η σ a = .long x ∧ x.toInt = zev σ a := by
  obtain ⟨t, i, o⟩ := a
  simp only at ht
  subst ht
  have h2 := h.2
  simp only [zok] at h2
  refine ⟨Int64.ofInt (zev σ (1, i, o)), rfl, ?_⟩
  rw [Int64.toInt_ofInt]
  exact Int.bmod_eq_of_le (by simp only [Int64.size]; omega) (by simp only [Int64.size]; omega)
end ZSD
