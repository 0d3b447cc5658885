variable {η : zRn}
/-! instructions that read or write the heap -/
theorem z_fs {K : zKD} {g : Nat → Int} {k : Nat} (h : k < K.2.2.1) : ((List.range K.2.2.1).map (fun j => zdec η (zty K j).1 (g j)))[k]? = some (zdec η (zty K k).1 (g k)) := by
  rw [List.getElem?_map, List.getElem?_range h]
  rfl
theorem z_fset {K : zKD} {h : Nat → Nat → Int} {a k : Nat} {x : Int} : ((List.range K.2.2.1).map (fun j => zdec η (zty K j).1 (h a j))).set k (zdec η (zty K k).1 x) = (List.range K.2.2.1).map (fun j => zdec η (zty K j).1 (zup h a k x a j)) := by
  apply List.ext_getElem?
  intro i
  by_cases e : k = i
  · subst e
    rw [List.getElem?_set]
    simp only [if_true]
    by_cases hk : k < K.2.2.1
    · rw [if_pos (by simpa using hk), z_fs (g := fun j => zup h a k x a j) hk, zup_at]
    · rw [if_neg (by simpa using hk), List.getElem?_eq_none (by simpa using hk)]
  · rw [List.getElem?_set_ne e]
    rw [List.getElem?_map, List.getElem?_map]
    cases hi : (List.range K.2.2.1)[i]? with
    | none => rfl
    | some j =>
      have : j = i := by
        have := List.getElem?_eq_some_iff.mp hi
        obtain ⟨h1, h2⟩ := this
        simpa using h2.symm
      subst this
      simp only [Option.map_some]
      rw [zup_ne (fun q => e q.2.symm)]
/-- a value as one of a type: null is of every kind -/
def zcast (env : List zIV) (tag : Nat) (v : zAV) : Option zAV :=
  if v.1 = tag then some v
  else if (decide (2 ≤ tag) && decide (2 ≤ v.1) && decide (ziv env v = some (-1, -1))) = true then some (tag, v.2.1, v.2.2) else none
theorem z_null (t : Nat) (h : 2 ≤ t) : zdec η t (-1) = .null := by
  match t, h with
  | t + 2, _ => rfl
theorem z_cast {Θ : Nat → Option Nat} {σ : List Int} {env : List zIV} {tag : Nat} {v w : zAV} (h : zcast env tag v = some w) (gE : zge σ env) (gv : zga Θ σ v) : w.1 = tag ∧ zga Θ σ w ∧ zev σ w = zev σ v ∧ zvo η σ w = zvo η σ v := by
  unfold zcast at h
  split at h
  · rename_i e
    cases h
    exact ⟨e, gv, rfl, rfl⟩
  · split at h
    · rename_i e
      simp only [Bool.and_eq_true, decide_eq_true_eq] at e
      obtain ⟨⟨e1, e2⟩, e3⟩ := e
      cases h
      have b := z_iv gE e3
      simp only at b
      have e4 : zev σ v = -1 := by omega
      have e5 : zev σ (tag, v.2.1, v.2.2) = -1 := e4
      refine ⟨rfl, ⟨gv.1, ?_⟩, rfl, ?_⟩
      · rw [e5]
        match tag, e1 with
        | t + 2, _ => exact Or.inl rfl
      · unfold zvo
        rw [e4, e5]
        simp only
        rw [z_null _ e1, z_null _ e2]
    · cases h
/-- the value fits the type of a slot -/
def zfits (env : List zIV) (τ : Nat × Int × Int) (v : zAV) : Bool := match ziv env v with
  | some q => decide (v.1 = τ.1) && decide (τ.2.1 ≤ q.1) && decide (q.2 ≤ τ.2.2)
  | none => false
theorem z_fits {Θ : Nat → Option Nat} {σ : List Int} {env : List zIV} {τ : Nat × Int × Int} {v : zAV} (h : zfits env τ v = true) (gE : zge σ env) (gv : zga Θ σ v) : v.1 = τ.1 ∧ zok Θ τ.1 (zev σ v) ∧ τ.2.1 ≤ zev σ v ∧ zev σ v ≤ τ.2.2 := by
  unfold zfits at h
  split at h
  · rename_i q hq
    simp only [Bool.and_eq_true, decide_eq_true_eq] at h
    have := z_iv gE hq
    refine ⟨h.1.1, by rw [← h.1.1]; exact gv.2, by omega, by omega⟩
  · cases h
/-- a field's type and a slot's -/
def zfty (ty : FieldType) (τ : Nat × Int × Int) : Bool := match ty, τ.1 with
  | .int, 0 => true
  | .boolean, 0 => decide (0 ≤ τ.2.1) && decide (τ.2.2 ≤ 1)
  | .long, 1 => true
  | .object _, _ + 2 => true
  | .array _, _ + 2 => true
  | _, _ => false
theorem z_b01 : ∀ k : Fin 2, narrow .boolean (.int (Int32.ofInt (k.val : Int))) = .int (Int32.ofInt (k.val : Int)) ∧ fits .boolean (.int (Int32.ofInt (k.val : Int))) = true := by decide +kernel
theorem z_fty {Θ : Nat → Option Nat} {ty : FieldType} {τ : Nat × Int × Int} {x : Int} (h : zfty ty τ = true) (hx : zok Θ τ.1 x) (h1 : τ.2.1 ≤ x) (h2 : x ≤ τ.2.2) : narrow ty (zdec η τ.1 x) = zdec η τ.1 x ∧ fits ty (zdec η τ.1 x) = true := by
  unfold zfty at h
  split at h
  · rename_i e
    rw [e]
    exact ⟨rfl, rfl⟩
  · rename_i e
    simp only [Bool.and_eq_true, decide_eq_true_eq] at h
    rw [e]
    have := z_b01 ⟨x.toNat, by omega⟩
    simp only at this
    rw [show ((x.toNat : Nat) : Int) = x by omega] at this
    exact this
  · rename_i e
    rw [e]
    exact ⟨rfl, rfl⟩
  · rename_i e
    rw [e]
    show narrow _ (va_rf (zrf η x)) = va_rf (zrf η x) ∧ fits _ (va_rf (zrf η x)) = true
    cases zrf η x <;> exact ⟨rfl, rfl⟩
  · rename_i e
    rw [e]
    show narrow _ (va_rf (zrf η x)) = va_rf (zrf η x) ∧ fits _ (va_rf (zrf η x)) = true
    cases zrf η x <;> exact ⟨rfl, rfl⟩
  · cases h
theorem z_iE {eff : List (Nat × Nat × Nat)} {k lo hi j : Nat} (h : zinE eff k lo hi = true) (h1 : lo ≤ j) (h2 : j ≤ hi) : zinE eff k j j = true := by
  unfold zinE at *
  rw [List.any_eq_true] at *
  obtain ⟨e, he, h⟩ := h
  refine ⟨e, he, ?_⟩
  simp only [Bool.and_eq_true, decide_eq_true_eq] at *
  omega
section ZHI
variable {kds : List zKD} {D : va_G} {cl : List vw_C} {cy : Nat → ClassId} {L : List Nat} {Θ : Nat → Option Nat} {h0 : Nat → Nat → Int} {eff : List (Nat × Nat × Nat)} {A : Nat → Prop} {H0 : Heap} {nL : Nat}
variable {p : Program} {l : Launch} {e : Env} {R : Room} {s : State} {m : MethodId} {args : Array Value} {below : List Frame} {meth : Method} {c : Code} {Q : State → Prop}
variable {cc : ByteArray} {σA : List Int} {pc : Nat} {as : zAS} {tys : List (ClassId × FieldType)} {Ts : List Cond} {own : String}
/-- a reference that is not null, without an offset -/
def znn (env : List zIV) (a : zAV) : Bool := match ziv env a with
  | some q => decide (0 ≤ q.1) && decide (a.2.2 = 0)
  | none => false
theorem z_nnr {σ : List Int} {env : List zIV} {a : zAV} {kk : Nat} (h : znn env a = true) (gE : zge σ env) (ga : zga Θ σ a) (ht : a.1 = kk + 2) : zvo η σ a = .ref (η.1 (σ.getD a.2.1 0).toNat) ∧ 0 ≤ σ.getD a.2.1 0 ∧ Θ (σ.getD a.2.1 0).toNat = some kk := by
  unfold znn at h
  split at h
  · rename_i q hq
    simp only [Bool.and_eq_true, decide_eq_true_eq] at h
    have b := z_iv gE hq
    have ev : zev σ a = σ.getD a.2.1 0 := by unfold zev; rw [h.2]; simp
    rcases z_rr ga ht with ⟨e1, -⟩ | ⟨e1, e2, e3⟩
    · omega
    · rw [ev] at e1 e2 e3
      exact ⟨e3, e1, e2⟩
  · cases h
theorem zgo_get (hexec : p.tables.exec = Jvm.exec) (hb : c.code = cc) (hts : ∀ w ∈ Ts, w.before args s = true) (hown : s.vm.findClass own = some m.cls) (hK : va_K D cl tys s)
    {idx ci k kk : Nat} {C : String} {T : u_T} {N : Nat} (hc : cl[ci]? = some (C, T, N)) (hin : ∀ w ∈ u_ws C T N, w ∈ Ts) (hkN : k < N) (hlink : Cond.fieldLink own idx (T k).1 (T k).2.1 (T k).2.2.1 ∈ Ts)
    {a v : zAV} {st : List zAV} {env' : List zIV} {ov' : List zOV} {K : zKD} (hs : as.2.2.1 = a :: st) (ht : a.1 = kk + 2) (hn : znn as.1 a = true) (hKd : kds[kk]? = some K) (hKf : K.1 = 0 ∧ K.2.1 = ci) (hr : zrd kds as.1 as.2.2.2.1 kk a.2.1 k = some (env', ov', v))
    (hdg : decode cc pc = .ok (.getfield idx, 3))
    (k' : zGo η kds D cl cy L Θ h0 eff A H0 nL p l e R s m args below meth c Q σA (pc + 3) (env', as.2.1, v :: st, ov', as.2.2.2.2)) : zGo η kds D cl cy L Θ h0 eff A H0 nL p l e R s m args below meth c Q σA pc as := by
  intro τ h H locs ls g
  obtain ⟨gE, gL, hl, gS, gV, gR, gH, gF, gX⟩ := g
  rw [hs] at gS ⊢
  have ga := gS a List.mem_cons_self
  obtain ⟨ea, na, Θa⟩ := z_nnr hn gE ga ht
  obtain ⟨τ', gE', gV', gv, ev, K', hK', hsl, hvt⟩ := z_rd hr gE gV gH ga.1 na Θa
  cases hKd.symm.trans hK'
  obtain ⟨q0, hq⟩ := zH_get gH Θa hKd (by omega)
  rw [zE_o hKf.1, hKf.2] at hq
  rw [List.map_cons, ea]
  refine va_get (v := zvo η ((σA ++ τ) ++ τ') v) hexec hb hts hin hown hK gH.1 q0 hq hc k hkN (hts _ hlink) (fun _ x => x) ?_ hdg ?_
  · rw [z_fs hsl]
    unfold zvo
    rw [ev, hvt]
  · have gst : ∀ q ∈ st, zga Θ (σA ++ τ) q := fun q hq => gS q (List.mem_cons_of_mem _ hq)
    have w := k' (τ ++ τ') h H locs ls ⟨by rw [← List.append_assoc]; exact gE', fun q hq => by rw [← List.append_assoc]; exact z_ga (gL q hq), by rw [← List.append_assoc]; exact z_lv gL hl, ?_, by rw [← List.append_assoc]; exact gV', by rw [← List.append_assoc]; exact z_gr gR, gH, gF, gX⟩
    · simp only [List.map_cons, ← List.append_assoc] at w
      rw [z_st gst] at w
      exact w
    · intro b hb
      rw [← List.append_assoc]
      rcases List.mem_cons.mp hb with rfl | hb
      · exact gv
      · exact z_ga (gst b hb)
theorem zgo_put (hexec : p.tables.exec = Jvm.exec) (hb : c.code = cc) (hts : ∀ w ∈ Ts, w.before args s = true) (hown : s.vm.findClass own = some m.cls) (hK : va_K D cl tys s) (hnd : L.Nodup) (hLA : ∀ a ∈ L, A a)
    {idx ci k kk : Nat} {C : String} {T : u_T} {N : Nat} (hc : cl[ci]? = some (C, T, N)) (hin : ∀ w ∈ u_ws C T N, w ∈ Ts) (ty0 : Nat → FieldType) (hty : ∀ k, k < N → parseFieldDescriptor (T k).2.2.1 = some (ty0 k)) (hnm : ∀ a, a < N → ∀ b, b < N → a ≠ b → (T a).2.1 ≠ (T b).2.1)
    (hkN : k < N) (hlink : Cond.fieldLink own idx (T k).1 (T k).2.1 (T k).2.2.1 ∈ Ts) (hfin : (T k).2.2.2 = false)
    {a v w : zAV} {st : List zAV} {K : zKD} (hs : as.2.2.1 = v :: a :: st) (ht : a.1 = kk + 2) (hn : znn as.1 a = true) (hKd : kds[kk]? = some K) (hKf : K.1 = 0 ∧ K.2.1 = ci) (hkK : k < K.2.2.1) (hw : zcast as.1 (zty K k).1 v = some w) (hfit : zfits as.1 (zty K k) w = true) (hft : zfty (ty0 k) (zty K k) = true) (hef : zinE eff kk k k = true)
    (hdg : decode cc pc = .ok (.putfield idx, 3))
    (k' : zGo η kds D cl cy L Θ h0 eff A H0 nL p l e R s m args below meth c Q σA (pc + 3) (as.1, as.2.1, st, zwr as.2.2.2.1 kk a.2.1 k w, as.2.2.2.2)) : zGo η kds D cl cy L Θ h0 eff A H0 nL p l e R s m args below meth c Q σA pc as := by
  intro τ h H locs ls g
  obtain ⟨gE, gL, hl, gS, gV, gR, gH, gF, gX⟩ := g
  rw [hs] at gS ⊢
  have gv := gS v List.mem_cons_self
  have ga := gS a (List.mem_cons_of_mem _ List.mem_cons_self)
  obtain ⟨ea, na, Θa⟩ := z_nnr hn gE ga ht
  obtain ⟨wt, gw, ew, vw⟩ := z_cast hw gE gv
  obtain ⟨-, b1, b2, b3⟩ := z_fits hfit gE gw
  obtain ⟨c1, c2⟩ := z_fty hft b1 b2 b3
  have hD : va_D A ([] ++ va_pl L (zF η kds cy Θ h)) := z_D hnd hLA
  obtain ⟨q0, hq⟩ := zH_get gH Θa hKd (by omega)
  have hq' := hq
  rw [zE_o hKf.1, hKf.2] at hq
  rw [List.map_cons, List.map_cons, ea, ← vw]
  have evw : zvo η (σA ++ τ) w = zdec η (zty K k).1 (zev (σA ++ τ) w) := by unfold zvo; rw [wt]
  rw [evw]
  refine va_put hexec hb hts hin ty0 hty hnm hown hK gH.1 hD gF q0 hq hc k hkN (hts _ hlink) (fun _ x => x) hfin (hty k hkN) c1 c2 (by simpa using hkK) hdg (fun H1 locs1 hP1 hD1 hS1 => ?_)
  have gH1 : zH η kds D cl cy L Θ (zup h ((σA ++ τ).getD a.2.1 0).toNat k (zev (σA ++ τ) w)) H1 := by
    refine zH_put gH hD Θa hKd (by omega) hkK ⟨b1, b2, b3⟩ hq' ?_
    rw [zE_o hKf.1, hKf.2, ← z_fset]
    exact hP1
  refine k' τ _ H1 locs1 ls ⟨gE, gL, hl, fun q hq => gS q (List.mem_cons_of_mem _ (List.mem_cons_of_mem _ hq)), z_wr gV gw ga.1 na Θa, gR, gH1, hS1, fun b kb j hb hj => ?_⟩
  rw [zup_ne]
  · exact gX b kb j hb hj
  · rintro ⟨rfl, rfl⟩
    cases Θa.symm.trans hb
    rw [hef] at hj
    cases hj
end ZHI
