variable {η : zRn}
/-! walks by hand over the same heap: a row an instruction -/
/-- the machine, the code, the words, the classes -/
def hCx (D : va_G) (cl : List vw_C) (cy : Nat → ClassId) (L : List Nat) (p : Program) (s : State) (m : MethodId) (args : Array Value) (c : Code) (cc : ByteArray) (nL : Nat) (tys : List (ClassId × FieldType)) (Ts : List Cond) (own : String) : Prop :=
  p.tables.exec = Jvm.exec ∧ c.code = cc ∧ c.maxLocals = nL ∧ (∀ w ∈ Ts, w.before args s = true) ∧ s.vm.findClass own = some m.cls ∧ va_K D cl tys s ∧ zTy cy tys ∧ L.Nodup
section HWK
variable {kds : List zKD} {D : va_G} {cl : List vw_C} {cy : Nat → ClassId} {L : List Nat} {Θ : Nat → Option Nat} {h : Nat → Nat → Int} {H H0 : Heap} {locs : List Loc}
variable {p : Program} {l : Launch} {e : Env} {R : Room} {s : State} {m : MethodId} {args : Array Value} {below : List Frame} {meth : Method} {c : Code} {Q : State → Prop}
variable {cc : ByteArray} {pc nL : Nat} {tys : List (ClassId × FieldType)} {Ts : List Cond} {own : String} {ls : Array Slot} {rest : List Value}
theorem hw_get (X : hCx D cl cy L p s m args c cc nL tys Ts own) {idx ci k kk : Nat} {o : Option FieldType} {a : Nat} {K : zKD} (hF : zFok own Ts cl (idx, ci, k, o)) (hΘ : Θ a = some kk) (hK : kds[kk]? = some K) (hKf : K.1 = 0 ∧ K.2.1 = ci) (hk : k < K.2.2.1) (hH : zH η kds D cl cy L Θ h H) (hdg : decode cc pc = .ok (.getfield idx, 3))
    (w : W p l e R s m args below meth c H locs 0 0 Q (F0 m (pc + 3) ls (zdec η (zty K k).1 (h a k) :: rest))) : W p l e R s m args below meth c H locs 0 0 Q (F0 m pc ls (.ref (η.1 a) :: rest)) := by
  obtain ⟨hexec, hb, hml, hts, hown, hKa, hT, hnd⟩ := X
  obtain ⟨C, T, N, e1, e2, e3, e4, -⟩ := hF
  obtain ⟨q0, hq⟩ := zH_get hH hΘ hK (by omega)
  rw [zE_o hKf.1, hKf.2] at hq
  exact va_get (v := zdec η (zty K k).1 (h a k)) hexec hb hts e2 hown hKa hH.1 q0 hq e1 k e3 (hts _ e4) (fun _ x => x) (z_fs hk) hdg w
theorem hw_put (X : hCx D cl cy L p s m args c cc nL tys Ts own) {idx ci k kk : Nat} {ty : FieldType} {a : Nat} {K : zKD} {x : Int} (hF : zFok own Ts cl (idx, ci, k, some ty)) (hΘ : Θ a = some kk) (hK : kds[kk]? = some K) (hKf : K.1 = 0 ∧ K.2.1 = ci) (hk : k < K.2.2.1) (hft : zfty ty (zty K k) = true) (hx : zok Θ (zty K k).1 x ∧ (zty K k).2.1 ≤ x ∧ x ≤ (zty K k).2.2) (hH : zH η kds D cl cy L Θ h H) (hS : va_S (fun q => q ∈ L) H0 H locs) (hdg : decode cc pc = .ok (.putfield idx, 3))
    (w : ∀ (H1 : Heap) (locs1 : List Loc), zH η kds D cl cy L Θ (zup h a k x) H1 → va_S (fun q => q ∈ L) H0 H1 locs1 → W p l e R s m args below meth c H1 locs1 0 0 Q (F0 m (pc + 3) ls rest)) : W p l e R s m args below meth c H locs 0 0 Q (F0 m pc ls (zdec η (zty K k).1 x :: .ref (η.1 a) :: rest)) := by
  obtain ⟨hexec, hb, hml, hts, hown, hKa, hT, hnd⟩ := X
  obtain ⟨C, T, N, e1, e2, e3, e4, e5⟩ := hF
  obtain ⟨f1, ty0, f2, f3, f4⟩ := e5 ty rfl
  have hD : va_D (fun q => q ∈ L) ([] ++ va_pl L (zF η kds cy Θ h)) := z_D hnd (fun a ha => ha)
  obtain ⟨q0, hq⟩ := zH_get hH hΘ hK (by omega)
  have hq' := hq
  rw [zE_o hKf.1, hKf.2] at hq
  simp only at f4
  obtain ⟨c1, c2⟩ := z_fty hft hx.1 hx.2.1 hx.2.2
  rw [← f4] at c1 c2
  refine va_put hexec hb hts e2 ty0 f2 f3 hown hKa hH.1 hD hS q0 hq e1 k e3 (hts _ e4) (fun _ x => x) f1 (f2 k e3) c1 c2 (by simpa using hk) hdg (fun H1 locs1 hP1 hD1 hS1 => ?_)
  refine w H1 locs1 ?_ hS1
  refine zH_put hH hD hΘ hK (by omega) hk hx hq' ?_
  rw [zE_o hKf.1, hKf.2, ← z_fset]
  exact hP1
theorem hw_iald (X : hCx D cl cy L p s m args c cc nL tys Ts own) {kk : Nat} {a : Nat} {K : zKD} {i : Int32} (hΘ : Θ a = some kk) (hK : kds[kk]? = some K) (hKf : K.1 = 1 ∧ K.2.1 = 0) (hi : 0 ≤ i.toInt ∧ i.toInt < (K.2.2.1 : Int)) (hH : zH η kds D cl cy L Θ h H) (hdg : decode cc pc = .ok (.iaload, 1))
    (w : W p l e R s m args below meth c H locs 0 0 Q (F0 m (pc + 1) ls (.int (Int32.ofInt (h a i.toInt.toNat)) :: rest))) : W p l e R s m args below meth c H locs 0 0 Q (F0 m pc ls (.int i :: .ref (η.1 a) :: rest)) := by
  obtain ⟨hexec, hb, hml, hts, hown, hKa, hT, hnd⟩ := X
  obtain ⟨q0, hq⟩ := zH_get hH hΘ hK (by omega)
  rw [zE_i hKf.1, hKf.2] at hq
  obtain ⟨v1, v2⟩ := z_vin (i := i) (n := K.2.2.1) hi.1 hi.2
  refine va_iald hexec hb hKa hH.1 q0 0 hq hT.1 v1 hdg ?_
  rw [v2]
  exact w
theorem hw_bald (X : hCx D cl cy L p s m args c cc nL tys Ts own) {kk : Nat} {a : Nat} {K : zKD} {i : Int32} (hΘ : Θ a = some kk) (hK : kds[kk]? = some K) (hKf : K.1 = 1 ∧ (K.2.1 = 1 ∨ K.2.1 = 2)) (hi : 0 ≤ i.toInt ∧ i.toInt < (K.2.2.1 : Int)) (hH : zH η kds D cl cy L Θ h H) (hdg : decode cc pc = .ok (.baload, 1))
    (w : W p l e R s m args below meth c H locs 0 0 Q (F0 m (pc + 1) ls (.int (Int32.ofInt (h a i.toInt.toNat)) :: rest))) : W p l e R s m args below meth c H locs 0 0 Q (F0 m pc ls (.int i :: .ref (η.1 a) :: rest)) := by
  obtain ⟨hexec, hb, hml, hts, hown, hKa, hT, hnd⟩ := X
  obtain ⟨q0, hq⟩ := zH_get hH hΘ hK (by omega)
  rw [zE_i hKf.1] at hq
  obtain ⟨v1, v2⟩ := z_vin (i := i) (n := K.2.2.1) hi.1 hi.2
  rcases hKf.2 with e0 | e0
  · rw [e0] at hq
    refine va_bald hexec hb hKa hH.1 q0 1 hq hT.2.1 v1 hdg ?_
    rw [v2]
    exact w
  · rw [e0] at hq
    refine va_zald hexec hb hKa hH.1 q0 2 hq hT.2.2.1 v1 hdg ?_
    rw [v2]
    exact w
theorem hw_iast (X : hCx D cl cy L p s m args c cc nL tys Ts own) {kk : Nat} {a : Nat} {K : zKD} {i x : Int32} (hΘ : Θ a = some kk) (hK : kds[kk]? = some K) (hKf : K.1 = 1 ∧ K.2.1 = 0) (hi : 0 ≤ i.toInt ∧ i.toInt < (K.2.2.1 : Int)) (hx : zok Θ (zty K i.toInt.toNat).1 x.toInt ∧ (zty K i.toInt.toNat).2.1 ≤ x.toInt ∧ x.toInt ≤ (zty K i.toInt.toNat).2.2) (hH : zH η kds D cl cy L Θ h H) (hS : va_S (fun q => q ∈ L) H0 H locs) (hdg : decode cc pc = .ok (.iastore, 1))
    (w : ∀ (H1 : Heap) (locs1 : List Loc), zH η kds D cl cy L Θ (zup h a i.toInt.toNat x.toInt) H1 → va_S (fun q => q ∈ L) H0 H1 locs1 → W p l e R s m args below meth c H1 locs1 0 0 Q (F0 m (pc + 1) ls rest)) : W p l e R s m args below meth c H locs 0 0 Q (F0 m pc ls (.int x :: .int i :: .ref (η.1 a) :: rest)) := by
  obtain ⟨hexec, hb, hml, hts, hown, hKa, hT, hnd⟩ := X
  obtain ⟨q0, hq⟩ := zH_get hH hΘ hK (by omega)
  have hq1 := hq
  rw [zE_i hKf.1, hKf.2] at hq1
  obtain ⟨v1, v2⟩ := z_vin (i := i) (n := K.2.2.1) hi.1 hi.2
  have hD : va_D (fun q => q ∈ L) ([] ++ va_pl L (zF η kds cy Θ h)) := z_D hnd (fun a ha => ha)
  refine va_iast hexec hb hKa hH.1 hD hS q0 0 hq1 hT.1 v1 hdg (fun H1 locs1 hP1 _ hS1 => ?_)
  refine w H1 locs1 ?_ hS1
  refine zH_put hH hD hΘ hK (by omega) (by omega) hx hq ?_
  rw [zE_i hKf.1, hKf.2]
  have ef : (fun j => Int32.ofInt (zup h a i.toInt.toNat x.toInt a j)) = upd (fun j => Int32.ofInt (h a j)) i.toInt.toNat x := by
    funext j
    unfold upd
    split
    · rename_i e
      subst e
      rw [zup_at, z_ofi]
    · rename_i e
      rw [zup_ne (fun q => e q.2)]
  rw [ef, ← v2]
  exact hP1
end HWK
/-! a method some of whose marked places are walked by hand -/
def zHn (kds : List zKD) (cl : List vw_C) (TW : List Cond) (KP : zKPt) (tyf : (Nat → ClassId) → List (ClassId × FieldType)) (l : Launch) (own : String) (cc : ByteArray) (nL fr lo : Nat) (eff : List (Nat × Nat × Nat)) (ann : List (Nat × zAS × zRK)) (n0 : Nat) (t : Nat × zAS × zRK) : Prop :=
  ∀ (η : zRn) (D : va_G) (cy : Nat → ClassId) (L : List Nat) (Θ : Nat → Option Nat) (h0 : Nat → Nat → Int) (p : Program) (e : Env) (R : Room) (s : State) (m : MethodId) (args : Array Value) (below : List Frame) (meth : Method) (c : Code) (Q : State → Prop) (σ0 : List Int),
    p.tables.exec = Jvm.exec → c.code = cc → c.maxLocals = nL → s.vm.findClass own = some m.cls → (∀ w ∈ TW, w.before args s = true) → KP η D cy L Θ s → va_K D cl (tyf cy) s → zTy cy (tyf cy) → L.Nodup → R.frames = fr → R.locals = lo → σ0.length = n0 →
    ∀ (σ' : List Int) (h' : Nat → Nat → Int) (H : Heap) (locs : List Loc) (ls : Array Slot), (∃ κ, σ' = σ0 ++ κ) → zG η kds D cl cy L Θ h0 eff (fun x => x ∈ L) s.heap nL t.2.1 σ' h' H locs ls →
      (∀ t2 ∈ ann, ∀ (σ2 : List Int) (h2 : Nat → Nat → Int) (H2 : Heap) (locs2 : List Loc) (ls2 : Array Slot), (∃ κ, σ2 = σ0 ++ κ) → zG η kds D cl cy L Θ h0 eff (fun x => x ∈ L) s.heap nL t2.2.1 σ2 h2 H2 locs2 ls2 → zrk σ2 t2.2.2 < zrk σ' t.2.2 → W p l e R s m args below meth c H2 locs2 0 0 Q (F0 m t2.1 ls2 (t2.2.1.2.2.1.map (zvo η σ2)))) →
      W p l e R s m args below meth c H locs 0 0 Q (F0 m t.1 ls (t.2.1.2.2.1.map (zvo η σ')))
def zmeth3 (kds : List zKD) (C : zCT) (M : zMD) (fuel : Nat) (B : Int) (gv : List Nat) : Bool :=
  zchk kds C.1.2.2.1 C.2.2.2.2 C.1.2.2.2 C.2.2.2.1 C.2.2.1.2.1.length M (B, []) fuel 0 (C.2.2.1.2.1, C.2.2.1.2.2.1, [], C.2.2.1.2.2.2.2.1, C.2.2.1.2.2.2.2.2) &&
  M.2.2.2.2.2.1.all (fun t => zpos t.2.1.1 t.2.2 && t.2.2.2.all (fun q => decide (q.1 < t.2.1.1.length)) && (gv.contains t.1 || zexs kds C.1.2.2.1 C.2.2.2.2 C.1.2.2.2 C.2.2.2.1 C.2.2.1.2.1.length M (zchk kds C.1.2.2.1 C.2.2.2.2 C.1.2.2.2 C.2.2.2.1 C.2.2.1.2.1.length M t.2.2 fuel) t.1 t.2.1))
theorem z_met3 {kds : List zKD} {cl : List vw_C} {TW : List Cond} {KP : zKPt} {tyf : (Nat → ClassId) → List (ClassId × FieldType)} {l : Launch} (hKP : zKPok cl tyf KP) (hg : zgoodW TW) (C : zCT) (M : zMD) (fuel : Nat) (B : Int) (gv : List Nat) (hy : plainName C.1.1.cls = true) (hloc : C.2.2.1.2.2.1 = zargs 0 C.2.2.1.1) (hw : zwid C.2.2.1.1 ≤ C.1.2.2.1) (hchk : zmeth3 kds C M fuel B gv = true)
    (hcode : ∀ q ∈ M.1, decode C.1.2.1 q.1 = .ok (q.2.1, q.2.2)) (hfl : ∀ q ∈ M.2.1, zFok C.1.1.cls TW cl q) (hcs : (∀ q ∈ M.2.2.1.1, Cond.constant C.1.1.cls q.1 (Int32.ofInt q.2) ∈ TW) ∧ ∀ q ∈ M.2.2.1.2, Cond.constantLong C.1.1.cls q.1 (Int64.ofInt q.2) ∈ TW)
    (hca : ∀ q ∈ M.2.2.2.1, ∀ C' ∈ q.2, zMet kds cl TW KP l C' ∧ (zCV kds cl TW C.1.1.cls C.1.2.1 C.2.1.1 C.2.1.2 q.1 C' ∨ zCS TW C.1.1.cls C.1.2.1 C.2.1.1 C.2.1.2 q.1 C')) (hsp : ∀ q ∈ M.2.2.2.2.1, zSpok kds cl TW KP tyf l C.1.1.cls C.1.2.1 C.1.2.2.1 C.2.1.1 C.2.1.2 C.2.2.2.2 q) 
    (hgv : ∀ t ∈ M.2.2.2.2.2.1, gv.contains t.1 = true → zHn kds cl TW KP tyf l C.1.1.cls C.1.2.1 C.1.2.2.1 C.2.1.1 C.2.1.2 C.2.2.2.2 M.2.2.2.2.2.1 C.2.2.1.2.1.length t) : zMet kds cl TW KP l C := by
  intro η D cy L Θ h σ hnd hE hA hV hR
  refine Met.ofW (cc := C.1.2.1) (maxL := C.1.2.2.1) (ret := C.1.2.2.2) hy rfl ?_
  intro p e s m args below meth c s₁ B' hml hv
  obtain ⟨rfl, hH, hK⟩ := hv
  have hts := atoms_spec (ws := Cond.code C.1.1 C.1.2.1 C.1.2.2.1 C.1.2.2.2 :: TW) B'.pre
  have hown : s.vm.findClass C.1.1.cls = some m.cls := findClass_of_methodNamed B'.named
  obtain ⟨hKa, hTy⟩ := hKP.1 _ _ _ _ _ _ hK
  have hmono : ∀ w ∈ TW, w ∈ Cond.code C.1.1 C.1.2.1 C.1.2.2.1 C.1.2.2.2 :: TW := fun w hw => List.mem_cons_of_mem _ hw
  unfold zmeth3 at hchk
  rw [Bool.and_eq_true] at hchk
  rw [← hE.1] at hchk
  generalize hQ : MQ below (zQ η kds D cl cy L Θ h σ C.2.2.2.1 C.2.2.2.2) (List.map (zvo η σ) C.2.2.1.1).toArray s 0 0 (fun q => q ∈ L) = Qc
  have X : zCx η kds D cl cy L Θ h C.2.2.2.2 (fun q => q ∈ L) C.1.2.2.1 p l e (headSpec (Cond.code C.1.1 C.1.2.1 C.1.2.2.1 C.1.2.2.2 :: TW) ({ frames := C.2.1.1, cells := 0, slots := 0, locals := C.2.1.2 } : Room)).room s m (List.map (zvo η σ) C.2.2.1.1).toArray below meth c C.1.2.1 σ (tyf cy) (Cond.code C.1.1 C.1.2.1 C.1.2.2.1 C.1.2.2.2 :: TW) C.1.1.cls M C.1.2.2.2 C.2.2.2.1 := by
    refine ⟨⟨B'.exec, B'.bytes, hts, hown, hKa, hTy, hnd, fun a ha => ha⟩, ⟨fun q hq => zFok_mono hmono (hfl q hq), ⟨fun q hq => hmono _ (hcs.1 q hq), fun q hq => hmono _ (hcs.2 q hq)⟩, hcode⟩, ⟨fun q hq C' hC' => ?_, fun q hq Q' σA as as' hf k => ?_⟩, B'.returns, B'.notSynchronized, fun q hq => hq⟩
    · obtain ⟨hM, hc | hc⟩ := hca q hq C' hC'
      · exact z_runV hKP hg rfl hM hnd ⟨B'.exec, B'.bytes, hml, hown, hts⟩ hK hc
      · exact z_runS hKP hg rfl hM hnd ⟨B'.exec, B'.bytes, hml, hown, hts⟩ hK hc
    · exact hsp q hq η D cy L Θ h p e _ s m _ below meth c Q' σA as as' B'.exec B'.bytes hml hown (fun w hw => hts w (hmono w hw)) hK hKa hTy hnd rfl rfl hf k
  have key : ∀ n : Nat, ∀ t ∈ M.2.2.2.2.2.1, ∀ (σ' : List Int) (h' : Nat → Nat → Int) (H : Heap) (locs : List Loc) (ls : Array Slot), (∃ κ, σ' = σ ++ κ) → zG η kds D cl cy L Θ h C.2.2.2.2 (fun q => q ∈ L) s.heap C.1.2.2.1 t.2.1 σ' h' H locs ls → zrk σ' t.2.2 < (n : Int) →
      W p l e (headSpec (Cond.code C.1.1 C.1.2.1 C.1.2.2.1 C.1.2.2.2 :: TW) ({ frames := C.2.1.1, cells := 0, slots := 0, locals := C.2.1.2 } : Room)).room s m (List.map (zvo η σ) C.2.2.1.1).toArray below meth c H locs 0 0 Qc (F0 m t.1 ls (t.2.1.2.2.1.map (zvo η σ'))) := by
    intro n
    induction n with
    | zero =>
      intro t ht σ' h' H locs ls hp g hlt
      have := List.all_eq_true.mp hchk.2 t ht
      simp only [Bool.and_eq_true] at this
      have := z_pos g.1 this.1.1
      omega
    | succ n ih =>
      intro t ht σ' h' H locs ls hp g hlt
      have hc := List.all_eq_true.mp hchk.2 t ht
      simp only [Bool.and_eq_true] at hc
      by_cases hg9 : gv.contains t.1 = true
      · exact hgv t ht hg9 η D cy L Θ h p e _ s m _ below meth c Qc σ B'.exec B'.bytes hml hown (fun w hw => hts w (hmono w hw)) hK hKa hTy hnd rfl rfl hE.1 σ' h' H locs ls hp g (fun t2 ht2 σ2 h2 H2 locs2 ls2 hp2 g2 hl2 => ih t2 ht2 σ2 h2 H2 locs2 ls2 hp2 g2 (by omega))
      have hc2 := hc.2
      rw [Bool.or_eq_true] at hc2
      have hc3 := hc2.resolve_left hg9
      have hsy : ∀ q ∈ t.2.2.2, q.1 < σ'.length := fun q hq => by
        rw [g.1.1]
        exact of_decide_eq_true (List.all_eq_true.mp hc.1.2 q hq)
      have w := z_exs (σA := σ') hQ.symm X (fun pc as hh => z_chk hQ.symm X hp hsy (fun t2 ht2 σ2 h2 H2 locs2 ls2 hp2 g2 hl2 => ih t2 ht2 σ2 h2 H2 locs2 ls2 hp2 g2 (by omega)) hh) hp hc3
      have := w [] h' H locs ls (by rw [List.append_nil]; exact g)
      rw [List.append_nil] at this
      exact this
  have hl := lv_entry (List.map (zvo η σ) C.2.2.1.1) (n := C.1.2.2.1) (by rw [z_wid]; exact hw)
  rw [lg_entry_eq]
  generalize (lg_sl (List.map (zvo η σ) C.2.2.1.1) ++ List.replicate (C.1.2.2.1 - (lg_sl (List.map (zvo η σ) C.2.2.1.1)).length) Slot.unset).toArray = ls at hl ⊢
  rw [z_args, ← hloc] at hl
  have hgl : ∀ q ∈ C.2.2.1.2.2.1, zga Θ σ q.2 := by
    rw [hloc]
    have : ∀ {ea : List zAV} {i : Nat}, (∀ a ∈ ea, zga Θ σ a) → ∀ q ∈ zargs i ea, zga Θ σ q.2 := by
      intro ea
      induction ea with
      | nil => intro i _ q hq; cases hq
      | cons a r ih =>
        intro i ha q hq
        simp only [zargs] at hq
        rcases List.mem_cons.mp hq with rfl | hq
        · exact ha a List.mem_cons_self
        · exact ih (fun b hb => ha b (List.mem_cons_of_mem _ hb)) q hq
    exact this hA
  have w := z_chk (σA := σ) hQ.symm X ⟨[], (List.append_nil σ).symm⟩ (rk := (B, [])) (fun q hq => by cases hq) (fun t2 ht2 σ2 h2 H2 locs2 ls2 hp2 g2 hl2 => key B.toNat t2 ht2 σ2 h2 H2 locs2 ls2 hp2 g2 (by
    have e1 : zrk σ (B, []) = B := by unfold zrk; simp [zsum]
    rw [e1] at hl2
    omega)) hchk.1
  have := w [] h s.heap [] ls (by
    rw [List.append_nil]
    exact ⟨hE, hgl, hl, fun _ hq => (by cases hq), hV, hR, hH, va_S.rf, fun _ _ _ _ _ => rfl⟩)
  exact this
