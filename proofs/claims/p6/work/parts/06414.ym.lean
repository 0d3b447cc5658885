variable {η : zRn}
/-! methods -/
/-- what a method's end says -/
def yQ (η : zRn) (kds : List zKD) (D : va_G) (cl : List vw_C) (cy : Nat → ClassId) (L : List Nat) (Θ : Nat → Option Nat) (vd : Bool) (Qr : yQt) : Array Value → State → Outcome → State → Prop := fun _ st oc t =>
  ∃ (v : Option Value) (a : yV) (h' : yH), oc = .returned v ∧ v = (if vd = true then none else some (yvo η a)) ∧ yok Θ a ∧ Qr a h' ∧ zH η kds D cl cy L Θ h' t.heap ∧ va_F (fun q => q ∈ L) st t
abbrev yY : Type := MethodName × ByteArray × Nat × Option FieldType
/-- a contract: from the tags of its values and what it does to numbers and cells -/
def yMet (kds : List zKD) (cl : List vw_C) (TW : List Cond) (KP : zKPt) (l : Launch) (y : yY) (fr lo : Nat) (tags : List Nat) (B : yB) : Prop :=
  ∀ (η : zRn) (D : va_G) (cy : Nat → ClassId) (L : List Nat) (Θ : Nat → Option Nat) (h : yH) (xs : List yV) (Qr : yQt), L.Nodup → xs.map Prod.fst = tags → (∀ a ∈ xs, yok Θ a) → B Θ (xs.map Prod.snd) h Qr →
    Met l y.1 (Cond.code y.1 y.2.1 y.2.2.1 y.2.2.2 :: TW) ({ frames := fr, cells := 0, slots := 0, locals := lo } : Room) (va_Pc (xs.map (yvo η)) (fun U => zH η kds D cl cy L Θ h U.heap ∧ KP η D cy L Θ U)) (yQ η kds D cl cy L Θ y.2.2.2.isNone Qr) 0 0 (fun q => q ∈ L)
/-- all that a walk takes as known of its method -/
def yCz (η : zRn) (kds : List zKD) (D : va_G) (cl : List vw_C) (cy : Nat → ClassId) (L : List Nat) (Θ : Nat → Option Nat) (nL : Nat) (p : Program) (l : Launch) (e : Env) (R : Room) (s : State) (m : MethodId) (args : Array Value) (below : List Frame) (meth : Method) (c : Code) (Q : State → Prop)
    (cc : ByteArray) (tys : List (ClassId × FieldType)) (own : String) (TW : List Cond) (KP : zKPt) (tyf : (Nat → ClassId) → List (ClassId × FieldType)) (ret : Option FieldType) (fr lo : Nat) (Qr : yQt) : Prop :=
  hCx D cl cy L p s m args c cc nL tys TW own ∧ (∃ w0, ∀ w ∈ w0 :: TW, w.before args s = true) ∧ KP η D cy L Θ s ∧ zKPok cl tyf KP ∧ zgoodW TW ∧ (R.frames = fr ∧ R.locals = lo) ∧ meth.sig.returnType = ret ∧ meth.locks = false ∧ Q = MQ below (yQ η kds D cl cy L Θ ret.isNone Qr) args s 0 0 (fun q => q ∈ L)
section YMT
variable {kds : List zKD} {D : va_G} {cl : List vw_C} {cy : Nat → ClassId} {L : List Nat} {Θ : Nat → Option Nat} {nL : Nat}
variable {p : Program} {l : Launch} {e : Env} {R : Room} {s : State} {m : MethodId} {args : Array Value} {below : List Frame} {meth : Method} {c : Code} {Q : State → Prop}
variable {cc : ByteArray} {pc : Nat} {tys : List (ClassId × FieldType)} {own : String} {TW : List Cond} {KP : zKPt} {tyf : (Nat → ClassId) → List (ClassId × FieldType)} {ret : Option FieldType} {fr lo : Nat} {Qr : yQt} {P : yP}
theorem y_end {loc : yL} {st : List yV} {h : yH} {H : Heap} {locs : List Loc} {ls : Array Slot} {v : Option Value} {a : yV} {t : State} (g : yG η kds D cl cy L Θ s.heap nL loc st h H locs ls) (hv : v = (if ret.isNone = true then none else some (yvo η a))) (ha : yok Θ a) (hq : Qr a h) (ht : t.heap = H) : yQ η kds D cl cy L Θ ret.isNone Qr args s (.returned v) t := by
  refine ⟨v, a, h, rfl, hv, ha, hq, by rw [ht]; exact g.2.2.2.1, by rw [ht]; exact g.2.2.2.2.1, fun q h1 h2 => ?_⟩
  rw [ht]
  exact g.2.2.2.2.2.1 q h1 h2
theorem yr_ri (Z : yCz η kds D cl cy L Θ nL p l e R s m args below meth c Q cc tys own TW KP tyf ret fr lo Qr) (hr : ret = some .int) (hd : decode cc pc = .ok (.ireturn, 1)) : yGo η kds D cl cy L Θ nL p l e R s m args below meth c Q (pc) (yRi Qr) := by
  intro loc st h H locs ls hp g
  unfold yRi at hp
  split at hp
  · rename_i a
    obtain ⟨X, -, -, -, -, -, h1, h2, rfl⟩ := Z
    have ga := g.2.2.1 a List.mem_cons_self
    obtain ⟨x, ex, hx⟩ := y_int (η := η) ga hp.1
    have hv : some (Value.int x) = (if ret.isNone = true then none else some (yvo η a)) := by rw [hr, ex]; rfl
    rw [List.map_cons, ex]
    exact W.iret X.1 X.2.1 (h1.trans hr) (fun t ht _ => y_end g hv ga hp.2 ht) (fun q hq => g.2.2.2.2.2.2 q hq) hd h2
  · exact hp.elim
theorem yr_rz (Z : yCz η kds D cl cy L Θ nL p l e R s m args below meth c Q cc tys own TW KP tyf ret fr lo Qr) (hr : ret = some .boolean) (hd : decode cc pc = .ok (.ireturn, 1)) : yGo η kds D cl cy L Θ nL p l e R s m args below meth c Q (pc) (yRz Qr) := by
  intro loc st h H locs ls hp g
  unfold yRz at hp
  split at hp
  · rename_i a
    obtain ⟨X, -, -, -, -, -, h1, h2, rfl⟩ := Z
    have ga := g.2.2.1 a List.mem_cons_self
    obtain ⟨x, ex, hx⟩ := y_int (η := η) ga hp.1
    have hv : some (Value.int x) = (if ret.isNone = true then none else some (yvo η a)) := by rw [hr, ex]; rfl
    have hb := z_b01 ⟨a.2.toNat, by have := hp.2.1; omega⟩
    simp only at hb
    rw [show ((a.2.toNat : Nat) : Int) = x.toInt by have := hp.2.1; omega, z_ofi] at hb
    rw [List.map_cons, ex]
    exact W.zret X.1 X.2.1 (h1.trans hr) hb.1 (fun t ht _ => y_end g hv ga hp.2.2 ht) (fun q hq => g.2.2.2.2.2.2 q hq) hd h2
  · exact hp.elim
theorem yr_ra (Z : yCz η kds D cl cy L Θ nL p l e R s m args below meth c Q cc tys own TW KP tyf ret fr lo Qr) {kk : Nat} {C : String} (h9 : kk < 100000) (hr : ret = some (.object C)) (hd : decode cc pc = .ok (.areturn, 1)) : yGo η kds D cl cy L Θ nL p l e R s m args below meth c Q (pc) (yRa kk Qr) := by
  intro loc st h H locs ls hp g
  unfold yRa at hp
  split at hp
  · rename_i a
    obtain ⟨X, -, -, -, -, -, h1, h2, rfl⟩ := Z
    have ga := g.2.2.1 a List.mem_cons_self
    have ga2 : yok Θ (kk + 2, a.2) := by
      unfold yok at ga ⊢
      rw [if_pos (by simp only; omega)]
      rcases hp.1 with e | e | e
      · rw [if_neg (by omega)] at ga
        refine Or.inr ⟨ga.1, ?_⟩
        rw [ga.2, e]
        exact congrArg some (by omega)
      · rw [if_pos (by omega), e] at ga
        exact ga
      · exact Or.inl e.2
    have ev : yvo η a = yvo η (kk + 2, a.2) := by
      obtain ⟨t, n⟩ := a
      have h2t : 2 ≤ t := by
        rcases hp.1 with e | e | e
        · simp only at e; omega
        · simp only at e; omega
        · exact e.1
      match t, h2t with
      | t + 2, _ => rfl
    have hv : some (yvo η a) = (if ret.isNone = true then none else some (yvo η (kk + 2, a.2))) := by rw [hr, ev]; rfl
    have hn : yvo η a = .null ∨ ∃ x, yvo η a = .ref x := by
      rw [ev]
      rcases y_nul (η := η) ga2 (by simp only; omega) with ⟨-, q⟩ | ⟨-, q⟩
      · exact Or.inl q
      · exact Or.inr ⟨_, q⟩
    rw [List.map_cons]
    exact W.aret X.1 X.2.1 (h1.trans hr) (Or.inl ⟨_, rfl⟩) hn (fun t ht _ => y_end g hv ga2 hp.2 ht) (fun q hq => g.2.2.2.2.2.2 q hq) hd h2
  · exact hp.elim
theorem yr_rv (Z : yCz η kds D cl cy L Θ nL p l e R s m args below meth c Q cc tys own TW KP tyf ret fr lo Qr) (hr : ret = none) (hd : decode cc pc = .ok (.return_, 1)) : yGo η kds D cl cy L Θ nL p l e R s m args below meth c Q (pc) (yRv Qr) := by
  intro loc st h H locs ls hp g
  unfold yRv at hp
  split at hp
  · obtain ⟨X, -, -, -, -, -, h1, h2, rfl⟩ := Z
    have hv : (none : Option Value) = (if ret.isNone = true then none else some (yvo η (0, 0))) := by rw [hr]; rfl
    exact W.vret X.1 X.2.1 (h1.trans hr) (fun t ht _ => y_end g hv (y_i (by omega) (by omega)) hp ht) (fun q hq => g.2.2.2.2.2.2 q hq) hd h2
  · exact hp.elim
/-- what a call needs -/
def yHrun (η : zRn) (kds : List zKD) (D : va_G) (cl : List vw_C) (cy : Nat → ClassId) (L : List Nat) (Θ : Nat → Option Nat) (nL : Nat) (p : Program) (l : Launch) (e : Env) (R : Room) (s : State) (m : MethodId) (args : Array Value) (below : List Frame) (meth : Method) (c : Code) (pc : Nat) (tags : List Nat) (B : yB) (vd : Bool) : Prop :=
  ∀ (xs : List yV) (h : yH) (H : Heap) (locs : List Loc) (ls : Array Slot) (rest : List Value) (Qr : yQt), xs.map Prod.fst = tags → (∀ a ∈ xs, yok Θ a) → B Θ (xs.map Prod.snd) h Qr → zH η kds D cl cy L Θ h H → va_S (fun q => q ∈ L) s.heap H locs → ls.size = nL → (rest.map (fun v => v.category)).sum ≤ 8 →
    va_Run p l e R s m args below meth c H locs 0 0 0 0 (F0 m pc ls ((xs.map (yvo η)).reverse ++ rest)) rest (yQ η kds D cl cy L Θ vd Qr (xs.map (yvo η)).toArray) (fun q => q ∈ L)
theorem y_cat8 : ∀ {st : List yV}, ((st.map (yvo η)).map (fun v => v.category)).sum ≤ 2 * st.length := by
  intro st
  induction st with
  | nil => simp
  | cons a r ih =>
    simp only [List.map_cons, List.sum_cons, List.length_cons]
    have : (yvo η a).category ≤ 2 := by
      by_cases h : a.1 = 1
      · have := y_cat (η := η) a
        rw [h] at this
        have h2 : (yvo η a).category = 2 := by simpa using this
        omega
      · rw [y_cat1 a h]; omega
    omega
theorem y_cal {n : Nat} {tags : List Nat} {B : yB} {vd : Bool} {loc : yL} {st : List yV} {h : yH} {H : Heap} {locs : List Loc} {ls : Array Slot} {Qr' : yQt} (hn : tags.length = n) (hrun : yHrun η kds D cl cy L Θ nL p l e R s m args below meth c pc tags B vd) (g : yG η kds D cl cy L Θ s.heap nL loc st h H locs ls) (h1 : n ≤ st.length ∧ (st.drop n).length ≤ 4) (h2 : (st.take n).reverse.map Prod.fst = tags) (h3 : B Θ ((st.take n).reverse.map Prod.snd) h Qr')
    (kk : ∀ (a : yV) (h' : yH) (H' : Heap) (locs' : List Loc), Qr' a h' → yok Θ a → zH η kds D cl cy L Θ h' H' → va_S (fun q => q ∈ L) s.heap H' locs' → W p l e R s m args below meth c H' locs' 0 0 Q (F0 m (pc + 3) ls ((if vd = true then (none : Option Value) else some (yvo η a)).toList ++ (st.drop n).map (yvo η)))) : W p l e R s m args below meth c H locs 0 0 Q (F0 m pc ls (st.map (yvo η))) := by
  have es : st.map (yvo η) = (((st.take n).reverse).map (yvo η)).reverse ++ (st.drop n).map (yvo η) := by
    rw [← List.map_reverse, List.reverse_reverse, ← List.map_append, List.take_append_drop]
  rw [es]
  have c8 := y_cat8 (η := η) (st := st.drop n)
  have hr := hrun ((st.take n).reverse) h H locs ls ((st.drop n).map (yvo η)) Qr' h2 (fun a ha => g.2.2.1 a (List.mem_of_mem_take (List.mem_reverse.mp ha))) h3 g.2.2.2.1 g.2.2.2.2 g.2.1.1 (by omega)
  intro T hT X
  obtain ⟨v, st₀, t, T', L', hh0, X', hL', e1, e2, ⟨v', a, h', hv, hv2, oa, oq, oH, oF⟩, stp⟩ := hr T hT X
  cases hv
  have gF := g.2.2.2.2
  have w := kk a h' t.heap (locs ++ L') oq oa oH ⟨Nat.le_trans gF.1 (by rw [← hh0]; exact oF.1), fun q hq hA => by
    have hq' : q < st₀.heap.size := by rw [hh0]; exact Nat.lt_of_lt_of_le hq gF.1
    rw [oF.2 q hq' hA, hh0]
    exact gF.2.1 q hq hA, fun q hq => by
    rcases List.mem_append.mp hq with hq | hq
    · exact gF.2.2 q hq
    · exact hL' q hq⟩
  rw [← hv2] at w
  obtain ⟨t2, q1, q2⟩ := w T' e1 X'
  exact ⟨t2, stp t2 q1, q2⟩
theorem yr_calR {n : Nat} {tags : List Nat} {B : yB} (hn : tags.length = n) (hrun : yHrun η kds D cl cy L Θ nL p l e R s m args below meth c pc tags B false) (k : yGo η kds D cl cy L Θ nL p l e R s m args below meth c Q (pc + 3) (P)) : yGo η kds D cl cy L Θ nL p l e R s m args below meth c Q (pc) (yCalR Θ n tags B P) := by
  intro loc st h H locs ls hp g
  obtain ⟨h1, h2, h3⟩ := hp
  exact y_cal hn hrun g h1 h2 h3 (fun a h' H' locs' oq oa oH oS => k loc (a :: st.drop n) h' H' locs' ls (oq oa) ⟨g.1, g.2.1, fun b hb => by
    rcases List.mem_cons.mp hb with rfl | hb
    · exact oa
    · exact g.2.2.1 b (List.mem_of_mem_drop hb), oH, oS⟩)
theorem yr_calV {n : Nat} {tags : List Nat} {B : yB} (hn : tags.length = n) (hrun : yHrun η kds D cl cy L Θ nL p l e R s m args below meth c pc tags B true) (k : yGo η kds D cl cy L Θ nL p l e R s m args below meth c Q (pc + 3) (P)) : yGo η kds D cl cy L Θ nL p l e R s m args below meth c Q (pc) (yCalV Θ n tags B P) := by
  intro loc st h H locs ls hp g
  obtain ⟨h1, h2, h3⟩ := hp
  exact y_cal hn hrun g h1 h2 h3 (fun a h' H' locs' oq oa oH oS => k loc (st.drop n) h' H' locs' ls oq ⟨g.1, g.2.1, fun b hb => g.2.2.1 b (List.mem_of_mem_drop hb), oH, oS⟩)
/-- what is known of a method that is called: of an object's, of a static one -/
def yCV (kds : List zKD) (cl : List vw_C) (TW : List Cond) (own : String) (cc : ByteArray) (fr lo pc : Nat) (y : yY) (fr' lo' : Nat) (tags : List Nat) : Prop :=
  ∃ idx : Nat, decode cc pc = .ok (.invokevirtual idx, 3) ∧ Cond.methodLink own idx y.1 ∈ TW ∧ Cond.instanceMethod y.1 ∈ TW ∧ Cond.selects y.1.cls y.1 y.1 ∈ TW ∧ Cond.initialized y.1.cls ∈ TW ∧ Cond.code y.1 y.2.1 y.2.2.1 y.2.2.2 ∈ TW ∧ (y.1.cls ≠ "java/lang/invoke/MethodHandle" ∧ y.1.cls ≠ "java/lang/invoke/VarHandle") ∧
    (parseMethodDescriptor y.1.desc).map (fun d => d.parameters.length) = some (tags.length - 1) ∧ fr' + 1 ≤ fr ∧ 8 + (y.2.2.1 + 11) + lo' ≤ lo ∧
    ∃ (kk : Nat) (ts : List Nat) (K : zKD) (T : u_T) (N : Nat), tags = (kk + 100002) :: ts ∧ kds[kk]? = some K ∧ K.1 = 0 ∧ cl[K.2.1]? = some (y.1.cls, T, N)
def yCS (TW : List Cond) (own : String) (cc : ByteArray) (fr lo pc : Nat) (y : yY) (fr' lo' : Nat) (tags : List Nat) : Prop :=
  ∃ idx : Nat, decode cc pc = .ok (.invokestatic idx, 3) ∧ Cond.methodLink own idx y.1 ∈ TW ∧ Cond.static y.1 ∈ TW ∧ Cond.initialized y.1.cls ∈ TW ∧ Cond.code y.1 y.2.1 y.2.2.1 y.2.2.2 ∈ TW ∧ (y.1.cls ≠ "java/lang/invoke/MethodHandle" ∧ y.1.cls ≠ "java/lang/invoke/VarHandle") ∧
    (parseMethodDescriptor y.1.desc).map (fun d => d.parameters.length) = some tags.length ∧ fr' + 1 ≤ fr ∧ 8 + (y.2.2.1 + 11) + lo' ≤ lo
theorem y_hrunV (Z : yCz η kds D cl cy L Θ nL p l e R s m args below meth c Q cc tys own TW KP tyf ret fr lo Qr) {y : yY} {fr' lo' : Nat} {tags : List Nat} {B : yB} (hM : yMet kds cl TW KP l y fr' lo' tags B) (hC : yCV kds cl TW own cc fr lo pc y fr' lo' tags) : yHrun η kds D cl cy L Θ nL p l e R s m args below meth c pc tags B y.2.2.2.isNone := by
  intro xs h H locs ls rest Qr' ht hA hB hH hS hsz hcat
  obtain ⟨⟨hexec, hb, hml, hts, hown, hKa, hTy, hnd⟩, ⟨w0, hw0⟩, hK, hKP, hg, ⟨hfr, hlo⟩, -, -, -⟩ := Z
  obtain ⟨idx, hd, m1, m2, m3, m4, m5, m6, m7, m8, m9, kk, ts, K, T, N, et, eK, eK0, eC⟩ := hC
  have hMM := hM η D cy L Θ h xs Qr' hnd ht hA hB
  cases xs with
  | nil => rw [et] at ht; cases ht
  | cons r ea =>
    have hr1 : r.1 = kk + 100002 := by
      rw [et] at ht
      simp only [List.map_cons, List.cons.injEq] at ht
      exact ht.1
    obtain ⟨a1, Θa, ea1⟩ := y_ref (η := η) (hA r List.mem_cons_self) hr1
    obtain ⟨q0, hq⟩ := zH_get hH Θa eK (by omega)
    rw [zE_o eK0] at hq
    have hrec := va_recv hKa hH.1 eC hq
    rw [List.map_cons, ea1] at hMM ⊢
    have hlen : ea.length = tags.length - 1 := by rw [← ht]; simp
    refine va_runV (C := y.1.cls) (n := tags.length - 1) (As := ea.map (yvo η)) (bytes := y.2.1) (maxL := y.2.2.1) (ret := y.2.2.2) (Ts := w0 :: TW) (own := own) ⟨hexec, hb, hml, hown, hw0⟩ hMM ⟨callB_of _ hw0 (z_good hg m5) rfl rfl rfl (hts _ m4) (hts _ m1) ⟨m6.1, m6.2, m7⟩ ⟨by rw [hfr]; exact m8, by rw [hlo]; exact m9⟩, hts _ m2, hts _ m3⟩ ⟨z_blind hKP, hrec, fun U hU hW => ⟨rfl, by rw [hU]; exact hH, ?_⟩⟩ rfl (by simpa using hlen) hsz (by simp) (by simpa using hcat) hd ⟨Nat.zero_le _, Nat.zero_le _⟩
    exact hKP.2.1 _ _ _ _ _ s U hK hW (by rw [hU]; exact hS.1) (fun q h1 h2 => by rw [hU]; exact hS.2.1 q h1 h2)
theorem y_hrunS (Z : yCz η kds D cl cy L Θ nL p l e R s m args below meth c Q cc tys own TW KP tyf ret fr lo Qr) {y : yY} {fr' lo' : Nat} {tags : List Nat} {B : yB} (hM : yMet kds cl TW KP l y fr' lo' tags B) (hC : yCS TW own cc fr lo pc y fr' lo' tags) : yHrun η kds D cl cy L Θ nL p l e R s m args below meth c pc tags B y.2.2.2.isNone := by
  intro xs h H locs ls rest Qr' ht hA hB hH hS hsz hcat
  obtain ⟨⟨hexec, hb, hml, hts, hown, hKa, hTy, hnd⟩, ⟨w0, hw0⟩, hK, hKP, hg, ⟨hfr, hlo⟩, -, -, -⟩ := Z
  obtain ⟨idx, hd, m1, m2, m4, m5, m6, m7, m8, m9⟩ := hC
  have hMM := hM η D cy L Θ h xs Qr' hnd ht hA hB
  have hlen : xs.length = tags.length := by rw [← ht]; simp
  refine va_runS (n := tags.length) (As := xs.map (yvo η)) (bytes := y.2.1) (maxL := y.2.2.1) (ret := y.2.2.2) (Ts := w0 :: TW) (own := own) ⟨hexec, hb, hml, hown, hw0⟩ hMM ⟨callB_of _ hw0 (z_good hg m5) rfl rfl rfl (hts _ m4) (hts _ m1) ⟨m6.1, m6.2, m7⟩ ⟨by rw [hfr]; exact m8, by rw [hlo]; exact m9⟩, hts _ m2⟩ ⟨z_blind hKP, fun U hU hW => ⟨rfl, by rw [hU]; exact hH, ?_⟩⟩ rfl (by simpa using hlen) hsz rfl (by simpa using hcat) hd ⟨Nat.zero_le _, Nat.zero_le _⟩
  exact hKP.2.1 _ _ _ _ _ s U hK hW (by rw [hU]; exact hS.1) (fun q h1 h2 => by rw [hU]; exact hS.2.1 q h1 h2)
end YMT
/-- the places of values among the locals -/
def yar : Nat → List yV → yL
  | _, [] => []
  | i, a :: r => (i, a) :: yar (i + if a.1 = 1 then 2 else 1) r
def ywd : List Nat → Nat
  | [] => 0
  | t :: r => (if t = 1 then 2 else 1) + ywd r
theorem y_args : ∀ {xs : List yV} {i : Nat}, lv_args i (xs.map (yvo η)) = (yar i xs).map (fun q => (q.1, yvo η q.2)) := by
  intro xs
  induction xs with
  | nil => intro i; rfl
  | cons a r ih =>
    intro i
    simp only [List.map_cons, lv_args, yar]
    congr 1
    have hc : ((yvo η a).category = 2) ↔ a.1 = 1 := by
      have := y_cat (η := η) a
      constructor
      · intro h
        rw [h] at this
        simpa using this.symm
      · intro h
        rw [h] at this
        simpa using this
    by_cases h : a.1 = 1
    · rw [if_pos (hc.mpr h), if_pos h]
      exact ih
    · rw [if_neg (fun q => h (hc.mp q)), if_neg h]
      exact ih
theorem y_wid : ∀ {xs : List yV}, (lg_sl (xs.map (yvo η))).length = ywd (xs.map Prod.fst) := by
  intro xs
  induction xs with
  | nil => rfl
  | cons a r ih =>
    unfold lg_sl at ih ⊢
    simp only [List.map_cons, List.flatMap_cons, List.length_append, ywd]
    rw [ih]
    congr 1
    by_cases h : a.1 = 1
    · have : (yvo η a).category = 2 := by
        have := y_cat (η := η) a
        rw [h] at this
        simpa using this
      rw [if_pos this, if_pos h]
      rfl
    · rw [y_cat1 a h, if_neg h]
      rfl
theorem y_arm {Θ : Nat → Option Nat} : ∀ {xs : List yV} {i : Nat}, (∀ a ∈ xs, yok Θ a) → ∀ q ∈ yar i xs, yok Θ q.2 := by
  intro xs
  induction xs with
  | nil => intro i _ q hq; cases hq
  | cons a r ih =>
    intro i ha q hq
    simp only [yar] at hq
    rcases List.mem_cons.mp hq with rfl | hq
    · exact ha a List.mem_cons_self
    · exact ih (fun b hb => ha b (List.mem_cons_of_mem _ hb)) q hq
/-- a method whose walk is sound keeps its contract -/
theorem y_met {kds : List zKD} {cl : List vw_C} {TW : List Cond} {KP : zKPt} {tyf : (Nat → ClassId) → List (ClassId × FieldType)} {l : Launch} (hKP : zKPok cl tyf KP) (hg : zgoodW TW) (y : yY) (fr lo : Nat) (tags : List Nat) (B : yB) (E : (Nat → Option Nat) → List yV → yH → yQt → yP) (hy : plainName y.1.cls = true) (hw : ywd tags ≤ y.2.2.1)
    (hE : ∀ (Θ : Nat → Option Nat) (xs : List yV) (h : yH) (Qr : yQt), xs.map Prod.fst = tags → (∀ a ∈ xs, yok Θ a) → B Θ (xs.map Prod.snd) h Qr → E Θ xs h Qr (yar 0 xs) [] h)
    (hgo : ∀ (η : zRn) (D : va_G) (cy : Nat → ClassId) (L : List Nat) (Θ : Nat → Option Nat) (p : Program) (e : Env) (R : Room) (s : State) (m : MethodId) (args : Array Value) (below : List Frame) (meth : Method) (c : Code) (Q : State → Prop) (xs : List yV) (h : yH) (Qr : yQt), (∀ a ∈ xs, yok Θ a) → xs.map Prod.fst = tags →
      yCz η kds D cl cy L Θ y.2.2.1 p l e R s m args below meth c Q y.2.1 (tyf cy) y.1.cls TW KP tyf y.2.2.2 fr lo Qr → yGo η kds D cl cy L Θ y.2.2.1 p l e R s m args below meth c Q 0 (E Θ xs h Qr)) : yMet kds cl TW KP l y fr lo tags B := by
  intro η D cy L Θ h xs Qr hnd ht hA hB
  refine Met.ofW (cc := y.2.1) (maxL := y.2.2.1) (ret := y.2.2.2) hy rfl ?_
  intro p e s m args below meth c s₁ B' hml hv
  obtain ⟨rfl, hH, hK⟩ := hv
  have hts := atoms_spec (ws := Cond.code y.1 y.2.1 y.2.2.1 y.2.2.2 :: TW) B'.pre
  have hown : s.vm.findClass y.1.cls = some m.cls := findClass_of_methodNamed B'.named
  obtain ⟨hKa, hTy⟩ := hKP.1 _ _ _ _ _ _ hK
  have hgo' := hgo η D cy L Θ p e (headSpec (Cond.code y.1 y.2.1 y.2.2.1 y.2.2.2 :: TW) ({ frames := fr, cells := 0, slots := 0, locals := lo } : Room)).room s m (xs.map (yvo η)).toArray below meth c _ xs h Qr hA ht ⟨⟨B'.exec, B'.bytes, hml, fun w hw => hts w (List.mem_cons_of_mem _ hw), hown, hKa, hTy, hnd⟩, ⟨_, hts⟩, hK, hKP, hg, ⟨rfl, rfl⟩, B'.returns, B'.notSynchronized, rfl⟩
  have hl := lv_entry (xs.map (yvo η)) (n := y.2.2.1) (by rw [y_wid, ht]; exact hw)
  rw [lg_entry_eq]
  generalize (lg_sl (xs.map (yvo η)) ++ List.replicate (y.2.2.1 - (lg_sl (xs.map (yvo η))).length) Slot.unset).toArray = ls at hl ⊢
  rw [y_args] at hl
  exact hgo' (yar 0 xs) [] h s.heap [] ls (hE Θ xs h Qr ht hA hB) ⟨y_arm hA, hl, fun _ hq => (by cases hq), hH, va_S.rf⟩
theorem y_zip : ∀ {xs : List yV} {tags : List Nat}, xs.map Prod.fst = tags → tags.zip (xs.map Prod.snd) = xs := by
  intro xs
  induction xs with
  | nil => intro tags h; subst h; rfl
  | cons a r ih =>
    intro tags h
    subst h
    simp only [List.map_cons, List.zip_cons_cons]
    rw [ih rfl]
theorem ycv_of {kds : List zKD} {cl : List vw_C} {own : String} {cc : ByteArray} {fr lo pc : Nat} {y : yY} {fr' lo' n : Nat} {tags : List Nat} (hM : zMV y.1 y.2.1 y.2.2.1 y.2.2.2 n) (idx : Nat) (hd : decode cc pc = .ok (.invokevirtual idx, 3)) (hl : Cond.methodLink own idx y.1 ∈ zTW) (hn : n = tags.length - 1) (h1 : fr' + 1 ≤ fr) (h2 : 8 + (y.2.2.1 + 11) + lo' ≤ lo)
    (h3 : ∃ (kk : Nat) (ts : List Nat) (K : zKD) (T : u_T) (N : Nat), tags = (kk + 100002) :: ts ∧ kds[kk]? = some K ∧ K.1 = 0 ∧ cl[K.2.1]? = some (y.1.cls, T, N)) : yCV kds cl zTW own cc fr lo pc y fr' lo' tags :=
  ⟨idx, hd, hl, hM.2.1, hM.2.2, hM.1.1, hM.1.2.1, hM.1.2.2.1, by rw [← hn]; exact hM.1.2.2.2, h1, h2, h3⟩
theorem ycs_of {own : String} {cc : ByteArray} {fr lo pc : Nat} {y : yY} {fr' lo' n : Nat} {tags : List Nat} (hM : zMS y.1 y.2.1 y.2.2.1 y.2.2.2 n) (idx : Nat) (hd : decode cc pc = .ok (.invokestatic idx, 3)) (hl : Cond.methodLink own idx y.1 ∈ zTW) (hn : n = tags.length) (h1 : fr' + 1 ≤ fr) (h2 : 8 + (y.2.2.1 + 11) + lo' ≤ lo) : yCS zTW own cc fr lo pc y fr' lo' tags :=
  ⟨idx, hd, hl, hM.2, hM.1.1, hM.1.2.1, hM.1.2.2.1, by rw [← hn]; exact hM.1.2.2.2, h1, h2⟩
