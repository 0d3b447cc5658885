section
/-! the array classes of the worlds, what the tables say of nest mates, and the forms of the contracts -/
abbrev tyW (cy : Nat → ClassId) : List (ClassId × FieldType) := [(cy 0, .int), (cy 1, .byte), (cy 2, .boolean), (cy 3, .object "ShoalClaims$Sea"), (cy 4, .object "ShoalClaims$Day"), (cy 5, .object "ShoalClaims$Dispute"), (cy 6, .object "ShoalClaims$Told")]
abbrev nL (own : String) (i : Nat) (y : MethodName) : Cond := .methodLinkNest own i y "ShoalClaims"
def nq (U : State) : Prop :=
  (va_Nw (nL RX11 9 yX9_init) U ∧ va_Nw (nL RX11 22 yX4_init) U ∧ va_Nw (nL RX11 29 yX5_init) U ∧ va_Nw (nL RX11 36 yX10_init) U ∧ va_Nw (nL RX11 43 yX0_init) U ∧ va_Nw (nL RX11 50 yX3_init) U) ∧
  (va_Nw (nL RX9 11 yX8_init) U ∧ va_Nw (nL RX9 24 yX6_init) U ∧ va_Nw (nL RX9 31 yX1_init) U ∧ va_Nw (nL RX9 38 yX2_init) U) ∧
  (va_Nw (nL RX4 11 yX6_init) U ∧ va_Nw (nL RX4 20 yX1_init) U ∧ va_Nw (nL RX4 27 yX2_init) U) ∧
  va_Nw (nL RX5 11 yX7_init) U ∧ va_Nw (nL RX10 11 yX6_init) U ∧
  (va_AO "ShoalClaims$Sea" U ∧ va_AO "ShoalClaims$Day" U ∧ va_AO "ShoalClaims$Dispute" U ∧ va_AO "ShoalClaims$Told" U)
theorem nq.warm {s U : State} (hW : s.WarmedH U.vm) (h : nq s) : nq U := by
  obtain ⟨⟨a1, a2, a3, a4, a5, a6⟩, ⟨b1, b2, b3, b4⟩, ⟨c1, c2, c3⟩, d1, e1, f1, f2, f3, f4⟩ := h
  exact ⟨⟨a1.warmM hW, a2.warmM hW, a3.warmM hW, a4.warmM hW, a5.warmM hW, a6.warmM hW⟩, ⟨b1.warmM hW, b2.warmM hW, b3.warmM hW, b4.warmM hW⟩, ⟨c1.warmM hW, c2.warmM hW, c3.warmM hW⟩, d1.warmM hW, e1.warmM hW, f1.moved hW.alike, f2.moved hW.alike, f3.moved hW.alike, f4.moved hW.alike⟩
theorem nq.same {u U : State} (hv : u.vm = U.vm) (h : nq u) : nq U := by
  obtain ⟨⟨a1, a2, a3, a4, a5, a6⟩, ⟨b1, b2, b3, b4⟩, ⟨c1, c2, c3⟩, d1, e1, f1, f2, f3, f4⟩ := h
  have ha : u.vm.Alike U.vm := by rw [hv]; exact Vm.Alike.refl U.vm
  exact ⟨⟨a1.same rfl hv, a2.same rfl hv, a3.same rfl hv, a4.same rfl hv, a5.same rfl hv, a6.same rfl hv⟩, ⟨b1.same rfl hv, b2.same rfl hv, b3.same rfl hv, b4.same rfl hv⟩, ⟨c1.same rfl hv, c2.same rfl hv, c3.same rfl hv⟩, d1.same rfl hv, e1.same rfl hv, f1.moved ha, f2.moved ha, f3.moved ha, f4.moved ha⟩
def KW (D : va_G) (cy : Nat → ClassId) (U : State) : Prop := va_K D vwCl (tyW cy) U ∧ nq U
theorem KW.warm {D : va_G} {cy : Nat → ClassId} {s U : State} (hW : s.WarmedH U.vm) (h : KW D cy s) : KW D cy U := ⟨va_K.moved hW.alike h.1, h.2.warm hW⟩
theorem KW.call {D : va_G} {cy : Nat → ClassId} {U : State} {g : JFrame} {mk : MethodId} {a : Array Value} (h : KW D cy U) : KW D cy (U.calling g mk a) := ⟨va_K.moved (u := U) (U := U.calling g mk a) (Vm.Alike.refl U.vm) h.1, h.2.same rfl⟩
/-- a reader's start: the cells, the classes -/
def PR (D : va_G) (cy : Nat → ClassId) (ws : va_W) (U : State) : Prop := va_P D vwCl ws U.heap ∧ KW D cy U
/-- a writer's start: besides, the heap's size and that the cells are apart -/
def PW (D : va_G) (cy : Nat → ClassId) (ws : va_W) (sz : Nat) (U : State) : Prop := U.heap.size = sz ∧ va_P D vwCl ws U.heap ∧ KW D cy U ∧ va_D (fun _ => True) ws
theorem pwB {D : va_G} {cy : Nat → ClassId} {ws : va_W} {sz : Nat} {av : List Value} : FrameBlind (va_Pc av (PW D cy ws sz)) := fun _ _ _ _ q => ⟨q.1, q.2.1, q.2.2.1, q.2.2.2.1.call, q.2.2.2.2⟩
theorem PR.of {D : va_G} {cy : Nat → ClassId} {ws : va_W} {s U : State} {H : Heap} (hU : U.heap = H) (hW : s.WarmedH U.vm) (hK : KW D cy s) (hP : va_P D vwCl ws H) : PR D cy ws U := ⟨by rw [hU]; exact hP, hK.warm hW⟩
theorem PW.of {D : va_G} {cy : Nat → ClassId} {ws : va_W} {s U : State} {H : Heap} {A : Nat → Prop} (hU : U.heap = H) (hW : s.WarmedH U.vm) (hK : KW D cy s) (hP : va_P D vwCl ws H) (hD : va_D A ws) : PW D cy ws H.size U := ⟨by rw [hU], by rw [hU]; exact hP, hK.warm hW, hD.weaken (fun _ _ _ _ => trivial)⟩
theorem ra_inj {s : State} {a b : ClassId} {ty : FieldType} (h1 : va_RA s a ty) (h2 : va_RA s b ty) : a = b := by
  cases ty with
  | object C =>
    obtain ⟨_, _, _, _, _, h⟩ := h1
    obtain ⟨_, _, _, _, _, h'⟩ := h2
    exact Option.some.inj (h.symm.trans h')
  | _ => exact Option.some.inj (Eq.trans (Eq.symm h1) h2)
section BSE
variable {p : Program} {l : Launch} {e : Env} {R : Room} {s : State} {m : MethodId} {args : Array Value} {below : List Frame} {meth : Method} {c : Code} {H : Heap} {locs : List Loc} {cells slots : Nat} {Q : State → Prop}
variable {cc : ByteArray} {pc : Nat} {ls : Array Slot} {rest st0 : List Value} {a : Array Value} {D : va_G} {cl : List vw_C} {A : Nat → Prop} {tys : List (ClassId × FieldType)} {ws : va_W} {H0 : Heap}
/-- a new array of numbers, of the class that the worlds know -/
theorem nw_a (hexec : p.tables.exec = Jvm.exec) (hb : c.code = cc) {atype : ArrayType} (harr : (Cond.arrayClass (newarray.typeOf atype)).before args s = true) {ty : FieldType} (hty : newarray.typeOf atype = ty) (hK : va_K D cl tys s) (hP : va_P D cl ws H) (hD : va_D A ws) (hS : va_S A H0 H locs) (hA : ∀ q, H0.size ≤ q → A q)
    (t0 : Nat) {cI : ClassId} (ht : tys[t0]? = some (cI, ty)) (hz : defaultValue ty = .int 0) {n : Int32} (N' : Nat) (hn : ¬ n < 0) (hN : n.toNatClampNeg = N') (hbytes : N' * componentBytes ty ≤ 536870912) (hcells : cells + 1 ≤ R.cells) (hslots : slots + N' ≤ R.slots) (hdg : decode cc pc = .ok (.newarray atype, 2))
    (kk : ∀ (q : Nat) (H1 : Heap), va_P D cl (ws ++ [(q, .inl (cI, N', .inl (fun _ => 0)))]) H1 → va_D A (ws ++ [(q, .inl (cI, N', .inl (fun _ => 0)))]) → va_S A H0 H1 locs →
      W p l e R s m args below meth c H1 locs (cells + 1) (slots + N') Q (F0 m (pc + 2) ls (.ref q :: rest))) : W p l e R s m args below meth c H locs cells slots Q (F0 m pc ls (.int n :: rest)) := by
  refine va_newa (a0 := (N', .inl (fun _ => 0))) hexec hb harr hty hK hP hD hS hA (fun cA => by rw [vp_cell_i, hz]) hn hN hbytes hcells hslots hdg (fun q cA H1 hK' hP' hD' hS' => ?_)
  have e1 : cA = cI := by
    have hlt : t0 < tys.length := (List.getElem?_eq_some_iff.mp ht).1
    have h1 := (hK'.2 t0 (cI, ty) (by rw [List.getElem?_append_left hlt]; exact ht)).2
    have h2 := (hK'.2 tys.length (cA, ty) (by rw [List.getElem?_append_right (Nat.le_refl _), Nat.sub_self]; rfl)).2
    exact ra_inj h2 h1
  subst e1
  exact kk q H1 hP' hD' hS'
/-- a new array of references, of the class that the worlds know -/
theorem nw_q (hexec : p.tables.exec = Jvm.exec) (hb : c.code = cc) {own C : String} {index : Nat} (hown : s.vm.findClass own = some m.cls) (hclink : (Cond.classLink own index C).before args s = true) (hover : va_AO C s) (hK : va_K D cl tys s) (hP : va_P D cl ws H) (hD : va_D A ws) (hS : va_S A H0 H locs) (hA : ∀ q, H0.size ≤ q → A q)
    (t0 : Nat) {cI : ClassId} (ht : tys[t0]? = some (cI, .object C)) {n : Int32} (N' : Nat) (hn : ¬ n < 0) (hN : n.toNatClampNeg = N') (hbytes : N' * 4 ≤ 536870912) (hcells : cells + 1 ≤ R.cells) (hslots : slots + N' ≤ R.slots) (hdg : decode cc pc = .ok (.anewarray index, 3))
    (kk : ∀ (q : Nat) (H1 : Heap), va_P D cl (ws ++ [(q, .inl (cI, N', .inr (.inr (.inr (.inr (fun _ => none))))))]) H1 → va_D A (ws ++ [(q, .inl (cI, N', .inr (.inr (.inr (.inr (fun _ => none))))))]) → va_S A H0 H1 locs →
      W p l e R s m args below meth c H1 locs (cells + 1) (slots + N') Q (F0 m (pc + 3) ls (.ref q :: rest))) : W p l e R s m args below meth c H locs cells slots Q (F0 m pc ls (.int n :: rest)) := by
  refine va_newq hexec hb hown hclink hover hK hP hD hS hA hn hN hbytes hcells hslots hdg (fun q cA H1 hK' hP' hD' hS' => ?_)
  have e1 : cA = cI := by
    have hlt : t0 < tys.length := (List.getElem?_eq_some_iff.mp ht).1
    have h1 := (hK'.2 t0 (cI, .object C) (by rw [List.getElem?_append_left hlt]; exact ht)).2
    have h2 := (hK'.2 tys.length (cA, .object C) (by rw [List.getElem?_append_right (Nat.le_refl _), Nat.sub_self]; rfl)).2
    exact ra_inj h2 h1
  subst e1
  exact kk q H1 hP' hD' hS'
/-- a call of a reader: the heap is as it was -/
theorem pc_i {post : Int32 → Prop} (hr : va_Run p l e R s m args below meth c H locs cells slots 0 0 (F0 m pc ls st0) rest (vp_Si post a) (fun _ => False))
    (kk : ∀ r : Int32, post r → W p l e R s m args below meth c H locs cells slots Q (F0 m (pc + 3) ls (.int r :: rest))) : W p l e R s m args below meth c H locs cells slots Q (F0 m pc ls st0) := by
  intro T hT X
  obtain ⟨v, st₀, t, T', L, h0, X', hL, e1, e2, ⟨r, hv, hp, hh⟩, st⟩ := hr T hT X
  cases hv
  obtain ⟨t2, a1, b1⟩ := kk r hp T' (by rw [e1, hh, h0]) (Stand.forget X' (fun q h => (hL q h).elim))
  exact ⟨t2, st t2 a1, b1⟩
end BSE
section BSF
variable {p : Program} {l : Launch} {e : Env} {R : Room} {s : State} {m : MethodId} {args : Array Value} {below : List Frame} {meth : Method} {c : Code} {H : Heap} {locs : List Loc} {cells slots : Nat} {Q : State → Prop}
variable {pc : Nat} {ls : Array Slot} {rest : List Value}
/-- the top of the stack, said otherwise -/
theorem tp_i {x : Int32} (y : Int32) (h : x = y) (k : W p l e R s m args below meth c H locs cells slots Q (F0 m pc ls (.int y :: rest))) : W p l e R s m args below meth c H locs cells slots Q (F0 m pc ls (.int x :: rest)) := h ▸ k
end BSF
theorem vi_c {i : Int32} {n : Nat} (h : (decide (i < 0) || decide (n ≤ i.toNatClampNeg)) = false) : vp_in i n := by
  unfold vp_in
  simp only [Bool.or_eq_false_iff, decide_eq_false_iff_not] at h
  exact fun q => q.elim h.1 h.2
/-- a row of two references -/
def ar2 (a b : Nat) : Nat → Option Nat := va_up (va_up (fun _ => none) 0 (some a)) 1 (some b)
end
section
/-! the words that all methods take; kinds -/
def zTW : List Cond := lw_tbl.filter goodWord
theorem zTW_good : zgoodW zTW := fun w hw => good_of_word (List.mem_filter.mp hw).2
theorem zTin {w : Cond} (i : Nat) (h : lw_tbl[i]? = some w) (hg : goodWord w = true) : w ∈ zTW := List.mem_filter.mpr ⟨List.mem_of_getElem? h, hg⟩
theorem zTpl (ws : List Cond) (ps : List Nat) (hp : ws = ps.filterMap (fun i => lw_tbl[i]?)) (hg : ws.all goodWord = true) : ∀ w ∈ ws, w ∈ zTW := by
  intro w hw
  have h2 := List.all_eq_true.mp hg w hw
  rw [hp] at hw
  obtain ⟨i, -, hi⟩ := List.mem_filterMap.mp hw
  exact zTin i hi h2
/-- what the words say of a method -/
def zMW (y : MethodName) (cc : ByteArray) (maxL : Nat) (ret : Option FieldType) (n : Nat) : Prop := Cond.initialized y.cls ∈ zTW ∧ Cond.code y cc maxL ret ∈ zTW ∧ (y.cls ≠ "java/lang/invoke/MethodHandle" ∧ y.cls ≠ "java/lang/invoke/VarHandle") ∧ (parseMethodDescriptor y.desc).map (fun d => d.parameters.length) = some n
def zMV (y : MethodName) (cc : ByteArray) (maxL : Nat) (ret : Option FieldType) (n : Nat) : Prop := zMW y cc maxL ret n ∧ Cond.instanceMethod y ∈ zTW ∧ Cond.selects y.cls y y ∈ zTW
def zMS (y : MethodName) (cc : ByteArray) (maxL : Nat) (ret : Option FieldType) (n : Nat) : Prop := zMW y cc maxL ret n ∧ Cond.static y ∈ zTW
theorem zcv_of {kds : List zKD} {cl : List vw_C} {own : String} {cc : ByteArray} {fr lo pc : Nat} {C : zCT} {n : Nat} (hM : zMV C.1.1 C.1.2.1 C.1.2.2.1 C.1.2.2.2 n) (idx : Nat) (hd : decode cc pc = .ok (.invokevirtual idx, 3)) (hl : Cond.methodLink own idx C.1.1 ∈ zTW) (hn : n = C.2.2.1.1.length - 1) (h1 : C.2.1.1 + 1 ≤ fr) (h2 : 8 + (C.1.2.2.1 + 11) + C.2.1.2 ≤ lo)
    (h3 : ∃ (r : zAV) (ea : List zAV) (K : zKD) (T : u_T) (N : Nat), C.2.2.1.1 = r :: ea ∧ 2 ≤ r.1 ∧ znn C.2.2.1.2.1 r = true ∧ kds[r.1 - 2]? = some K ∧ K.1 = 0 ∧ cl[K.2.1]? = some (C.1.1.cls, T, N)) : zCV kds cl zTW own cc fr lo pc C :=
  ⟨idx, hd, hl, hM.2.1, hM.2.2, hM.1.1, hM.1.2.1, hM.1.2.2.1, by rw [← hn]; exact hM.1.2.2.2, h1, h2, h3⟩
theorem zcs_of {own : String} {cc : ByteArray} {fr lo pc : Nat} {C : zCT} {n : Nat} (hM : zMS C.1.1 C.1.2.1 C.1.2.2.1 C.1.2.2.2 n) (idx : Nat) (hd : decode cc pc = .ok (.invokestatic idx, 3)) (hl : Cond.methodLink own idx C.1.1 ∈ zTW) (hn : n = C.2.2.1.1.length) (h1 : C.2.1.1 + 1 ≤ fr) (h2 : 8 + (C.1.2.2.1 + 11) + C.2.1.2 ≤ lo) : zCS zTW own cc fr lo pc C :=
  ⟨idx, hd, hl, hM.2, hM.1.1, hM.1.2.1, hM.1.2.2.1, by rw [← hn]; exact hM.1.2.2.2, h1, h2⟩
/-- a contract's receiver -/
def zRC (kds : List zKD) (cl : List vw_C) (C : zCT) (n : Nat) : Prop := n = C.2.2.1.1.length - 1 ∧ ∃ (r : zAV) (ea : List zAV) (K : zKD) (T : u_T) (N : Nat), C.2.2.1.1 = r :: ea ∧ 2 ≤ r.1 ∧ znn C.2.2.1.2.1 r = true ∧ kds[r.1 - 2]? = some K ∧ K.1 = 0 ∧ cl[K.2.1]? = some (C.1.1.cls, T, N)
theorem zcv_2 {kds : List zKD} {cl : List vw_C} {own : String} {cc : ByteArray} {fr lo pc : Nat} {C : zCT} {n : Nat} (hM : zMV C.1.1 C.1.2.1 C.1.2.2.1 C.1.2.2.2 n) (hR : zRC kds cl C n) (idx : Nat) (hd : decode cc pc = .ok (.invokevirtual idx, 3)) (hl : Cond.methodLink own idx C.1.1 ∈ zTW) (h1 : C.2.1.1 + 1 ≤ fr) (h2 : 8 + (C.1.2.2.1 + 11) + C.2.1.2 ≤ lo) : zCV kds cl zTW own cc fr lo pc C := zcv_of hM idx hd hl hR.1 h1 h2 hR.2
def zkds : List zKD := [(1, 1, 600, [(0, (-128), 127)]), (0, 8, 2, [(2, 0, 2147483647), (0, 0, 600)]), (1, 1, 600, [(0, (-128), 127)]), (0, 8, 2, [(4, 0, 2147483647), (0, 0, 600)]), (1, 1, 600, [(0, (-128), 127)]), (0, 8, 2, [(6, 0, 2147483647), (0, 0, 600)]), (1, 1, 600, [(0, (-128), 127)]), (0, 8, 2, [(8, 0, 2147483647), (0, 0, 600)]), (1, 0, 12, [(0, (-2147483648), 2147483647)]), (1, 0, 4, [(0, (-2147483648), 2147483647)]), (1, 0, 4, [(0, (-2147483648), 2147483647)]), (1, 0, 4, [(0, (-2147483648), 2147483647)]), (1, 0, 6, [(0, (-2147483648), 2147483647)]), (1, 0, 6, [(0, (-2147483648), 2147483647)]), (1, 0, 6, [(0, 0, 2)]), (0, 6, 15, [(0, 0, 8), (0, 0, 8), (0, 0, 3), (0, (-2147483648), 2147483647), (0, (-2147483648), 2147483647), (10, 0, 2147483647), (0, 0, 4), (11, 0, 2147483647), (12, 0, 2147483647), (13, 0, 2147483647), (0, 0, 6), (14, 0, 2147483647), (15, 0, 2147483647), (16, 0, 2147483647), (0, (-2147483648), 2147483647)]), (1, 0, 30, [(0, 0, 5)]), (1, 0, 90, [(0, (-2147483648), 2147483647)]), (0, 1, 3, [(0, 0, 30), (18, 0, 2147483647), (19, 0, 2147483647)]), (1, 0, 9, [(0, (-2147483648), 2147483647)]), (1, 0, 9, [(0, (-2147483648), 2147483647)]), (1, 0, 16, [(0, 0, 8)]), (1, 0, 16, [(0, 0, 8)]), (0, 2, 6, [(0, 0, 9), (21, 0, 2147483647), (22, 0, 2147483647), (0, 0, 16), (23, 0, 2147483647), (24, 0, 2147483647)]), (1, 0, 3, [(0, 0, 2)]), (2, 3, 2, [(17, 0, 2147483647)]), (2, 4, 2, [(20, 0, 2147483647)]), (2, 5, 2, [(25, 0, 2147483647)]), (0, 9, 7, [(3, 0, 2147483647), (26, 0, 2147483647), (27, 0, 2147483647), (28, 0, 2147483647), (29, 0, 2147483647), (0, (-2147483648), 2147483647), (0, (-2147483648), 2147483647)]), (0, 9, 7, [(5, 0, 2147483647), (26, 0, 2147483647), (27, 0, 2147483647), (28, 0, 2147483647), (29, 0, 2147483647), (0, (-2147483648), 2147483647), (0, (-2147483648), 2147483647)]), (0, 9, 7, [(7, 0, 2147483647), (26, 0, 2147483647), (27, 0, 2147483647), (28, 0, 2147483647), (29, 0, 2147483647), (0, (-2147483648), 2147483647), (0, (-2147483648), 2147483647)]), (0, 9, 7, [(9, 0, 2147483647), (26, 0, 2147483647), (27, 0, 2147483647), (28, 0, 2147483647), (29, 0, 2147483647), (0, (-2147483648), 2147483647), (0, (-2147483648), 2147483647)]), (1, 0, 5, [(0, (-2147483648), 2147483647)]), (1, 0, 5, [(0, (-2147483648), 2147483647)]), (0, 4, 10, [(17, 0, 2147483647), (20, 0, 2147483647), (25, 0, 2147483647), (0, 0, 4), (0, (-2147483648), 2147483647), (34, 0, 2147483647), (35, 0, 2147483647), (0, 0, 4), (0, 0, 600), (0, 0, 600)]), (1, 0, 6, [(0, (-2147483648), 2147483647)]), (1, 0, 6, [(0, (-2147483648), 2147483647)]), (1, 0, 6, [(0, (-2147483648), 2147483647)]), (1, 0, 6, [(0, (-2147483648), 2147483647)]), (1, 0, 6, [(0, (-2147483648), 2147483647)]), (1, 0, 6, [(0, (-1), 5)]), (0, 7, 8, [(37, 0, 2147483647), (38, 0, 2147483647), (39, 0, 2147483647), (40, 0, 2147483647), (41, 0, 2147483647), (42, 0, 2147483647), (0, (-2147483648), 2147483647), (0, 0, 6)]), (1, 0, 6, [(0, (-2147483648), 2147483647)]), (1, 0, 6, [(0, (-2147483648), 2147483647)]), (1, 0, 6, [(0, (-2147483648), 2147483647)]), (1, 0, 3, [(0, (-2147483648), 2147483647)]), (0, 5, 16, [(17, (-1), 2147483647), (20, (-1), 2147483647), (43, 0, 2147483647), (44, 0, 2147483647), (45, 0, 2147483647), (46, 0, 2147483647), (0, 0, 30), (0, (-2147483648), 2147483647), (0, (-2147483648), 2147483647), (0, (-2147483648), 2147483647), (0, (-2147483648), 2147483647), (0, (-1), 5), (0, (-2147483648), 2147483647), (0, (-2147483648), 2147483647), (0, (-2147483648), 2147483647), (47, 0, 2147483647)]), (0, 10, 4, [(0, (-2147483648), 2147483647), (0, (-2147483648), 2147483647), (0, (-2147483648), 2147483647), (17, 0, 2147483647)]), (1, 0, 128, [(0, 0, 15)]), (1, 0, 128, [(0, (-2147483648), 2147483647)]), (1, 0, 16, [(0, (-2147483648), 2147483647)]), (0, 0, 7, [(0, (-2147483648), 2147483647), (0, (-2147483648), 2147483647), (0, (-2147483648), 2147483647), (50, 0, 2147483647), (51, 0, 2147483647), (52, 0, 2147483647), (1, (-9223372036854775808), 9223372036854775807)]), (1, 0, 9, [(0, (-2147483648), 2147483647)]), (1, 0, 9, [(0, (-2147483648), 2147483647)]), (1, 0, 9, [(0, (-2147483648), 2147483647)]), (1, 0, 9, [(0, 0, 8)]), (1, 0, 512, [(0, (-2147483648), 2147483647)]), (1, 0, 81, [(0, (-2147483648), 2147483647)]), (0, 3, 6, [(54, 0, 2147483647), (55, 0, 2147483647), (56, 0, 2147483647), (57, 0, 2147483647), (58, 0, 2147483647), (59, 0, 2147483647)]), (3, 3, 0, []), (3, 4, 0, []), (3, 5, 0, []), (2, 6, 3, [(31, (-1), 2147483647), (32, (-1), 2147483647), (33, (-1), 2147483647)]), (0, 11, 7, [(30, 0, 2147483647), (64, 0, 2147483647), (36, 0, 2147483647), (48, 0, 2147483647), (49, 0, 2147483647), (53, 0, 2147483647), (60, 0, 2147483647)])]
theorem zkd_1 : zkds[1]? = some (0, 8, 2, [(2, 0, 2147483647), (0, 0, 600)]) := rfl
theorem zkd_3 : zkds[3]? = some (0, 8, 2, [(4, 0, 2147483647), (0, 0, 600)]) := rfl
theorem zkd_5 : zkds[5]? = some (0, 8, 2, [(6, 0, 2147483647), (0, 0, 600)]) := rfl
theorem zkd_7 : zkds[7]? = some (0, 8, 2, [(8, 0, 2147483647), (0, 0, 600)]) := rfl
theorem zkd_15 : zkds[15]? = some (0, 6, 15, [(0, 0, 8), (0, 0, 8), (0, 0, 3), (0, (-2147483648), 2147483647), (0, (-2147483648), 2147483647), (10, 0, 2147483647), (0, 0, 4), (11, 0, 2147483647), (12, 0, 2147483647), (13, 0, 2147483647), (0, 0, 6), (14, 0, 2147483647), (15, 0, 2147483647), (16, 0, 2147483647), (0, (-2147483648), 2147483647)]) := rfl
theorem zkd_18 : zkds[18]? = some (0, 1, 3, [(0, 0, 30), (18, 0, 2147483647), (19, 0, 2147483647)]) := rfl
theorem zkd_23 : zkds[23]? = some (0, 2, 6, [(0, 0, 9), (21, 0, 2147483647), (22, 0, 2147483647), (0, 0, 16), (23, 0, 2147483647), (24, 0, 2147483647)]) := rfl
theorem zkd_28 : zkds[28]? = some (0, 9, 7, [(3, 0, 2147483647), (26, 0, 2147483647), (27, 0, 2147483647), (28, 0, 2147483647), (29, 0, 2147483647), (0, (-2147483648), 2147483647), (0, (-2147483648), 2147483647)]) := rfl
theorem zkd_29 : zkds[29]? = some (0, 9, 7, [(5, 0, 2147483647), (26, 0, 2147483647), (27, 0, 2147483647), (28, 0, 2147483647), (29, 0, 2147483647), (0, (-2147483648), 2147483647), (0, (-2147483648), 2147483647)]) := rfl
theorem zkd_30 : zkds[30]? = some (0, 9, 7, [(7, 0, 2147483647), (26, 0, 2147483647), (27, 0, 2147483647), (28, 0, 2147483647), (29, 0, 2147483647), (0, (-2147483648), 2147483647), (0, (-2147483648), 2147483647)]) := rfl
theorem zkd_31 : zkds[31]? = some (0, 9, 7, [(9, 0, 2147483647), (26, 0, 2147483647), (27, 0, 2147483647), (28, 0, 2147483647), (29, 0, 2147483647), (0, (-2147483648), 2147483647), (0, (-2147483648), 2147483647)]) := rfl
theorem zkd_34 : zkds[34]? = some (0, 4, 10, [(17, 0, 2147483647), (20, 0, 2147483647), (25, 0, 2147483647), (0, 0, 4), (0, (-2147483648), 2147483647), (34, 0, 2147483647), (35, 0, 2147483647), (0, 0, 4), (0, 0, 600), (0, 0, 600)]) := rfl
theorem zkd_41 : zkds[41]? = some (0, 7, 8, [(37, 0, 2147483647), (38, 0, 2147483647), (39, 0, 2147483647), (40, 0, 2147483647), (41, 0, 2147483647), (42, 0, 2147483647), (0, (-2147483648), 2147483647), (0, 0, 6)]) := rfl
theorem zkd_46 : zkds[46]? = some (0, 5, 16, [(17, (-1), 2147483647), (20, (-1), 2147483647), (43, 0, 2147483647), (44, 0, 2147483647), (45, 0, 2147483647), (46, 0, 2147483647), (0, 0, 30), (0, (-2147483648), 2147483647), (0, (-2147483648), 2147483647), (0, (-2147483648), 2147483647), (0, (-2147483648), 2147483647), (0, (-1), 5), (0, (-2147483648), 2147483647), (0, (-2147483648), 2147483647), (0, (-2147483648), 2147483647), (47, 0, 2147483647)]) := rfl
theorem zkd_47 : zkds[47]? = some (0, 10, 4, [(0, (-2147483648), 2147483647), (0, (-2147483648), 2147483647), (0, (-2147483648), 2147483647), (17, 0, 2147483647)]) := rfl
theorem zkd_51 : zkds[51]? = some (0, 0, 7, [(0, (-2147483648), 2147483647), (0, (-2147483648), 2147483647), (0, (-2147483648), 2147483647), (50, 0, 2147483647), (51, 0, 2147483647), (52, 0, 2147483647), (1, (-9223372036854775808), 9223372036854775807)]) := rfl
theorem zkd_58 : zkds[58]? = some (0, 3, 6, [(54, 0, 2147483647), (55, 0, 2147483647), (56, 0, 2147483647), (57, 0, 2147483647), (58, 0, 2147483647), (59, 0, 2147483647)]) := rfl
theorem zkd_63 : zkds[63]? = some (0, 11, 7, [(30, 0, 2147483647), (64, 0, 2147483647), (36, 0, 2147483647), (48, 0, 2147483647), (49, 0, 2147483647), (53, 0, 2147483647), (60, 0, 2147483647)]) := rfl
theorem zx_0 : ∀ w ∈ u_ws RX0 TX0 7, w ∈ zTW := zTpl _ [532, 534, 536, 538, 540, 542, 544] (by decide +kernel) (by decide +kernel)
theorem zx_1 : ∀ w ∈ u_ws RX1 TX1 3, w ∈ zTW := zTpl _ [266, 268, 270] (by decide +kernel) (by decide +kernel)
theorem zx_2 : ∀ w ∈ u_ws RX2 TX2 6, w ∈ zTW := zTpl _ [296, 298, 300, 302, 304, 306] (by decide +kernel) (by decide +kernel)
theorem zx_3 : ∀ w ∈ u_ws RX3 TX3 6, w ∈ zTW := zTpl _ [561, 563, 565, 567, 569, 571] (by decide +kernel) (by decide +kernel)
theorem zx_4 : ∀ w ∈ u_ws RX4 TX4 10, w ∈ zTW := zTpl _ [363, 365, 367, 369, 371, 373, 375, 377, 379, 381] (by decide +kernel) (by decide +kernel)
theorem zx_5 : ∀ w ∈ u_ws RX5 TX5 16, w ∈ zTW := zTpl _ [459, 461, 463, 465, 467, 469, 471, 473, 475, 477, 479, 481, 483, 485, 487, 489] (by decide +kernel) (by decide +kernel)
theorem zx_6 : ∀ w ∈ u_ws RX6 TX6 15, w ∈ zTW := zTpl _ [219, 221, 223, 225, 227, 229, 231, 233, 235, 237, 239, 241, 243, 245, 247] (by decide +kernel) (by decide +kernel)
theorem zx_7 : ∀ w ∈ u_ws RX7 TX7 8, w ∈ zTW := zTpl _ [413, 415, 417, 419, 421, 423, 425, 427] (by decide +kernel) (by decide +kernel)
theorem zx_8 : ∀ w ∈ u_ws RX8 TX8 2, w ∈ zTW := zTpl _ [147, 149] (by decide +kernel) (by decide +kernel)
theorem zx_9 : ∀ w ∈ u_ws RX9 TX9 7, w ∈ zTW := zTpl _ [320, 322, 324, 326, 328, 330, 332] (by decide +kernel) (by decide +kernel)
theorem zx_10 : ∀ w ∈ u_ws RX10 TX10 4, w ∈ zTW := zTpl _ [507, 509, 511, 513] (by decide +kernel) (by decide +kernel)
theorem zx_11 : ∀ w ∈ u_ws RX11 TX11 7, w ∈ zTW := zTpl _ [581, 583, 585, 587, 589, 591, 593] (by decide +kernel) (by decide +kernel)
end
section
variable {η : zRn}
/-! what is there of itself: the tables of the Reader, the words as String constants; and what every method finds -/
def zTn (i : Nat) : String := ["LINES_FROM", "NUMBERS_OF_LINE", "LEAST_NUMBER", "MOST_NUMBER"].getD i ""
def zTv (i : Nat) : List Int := [[0, 7, 13, 15], [2, 2, 1, 5, 3, 3, 1, 2, 3, 2, 2, 2, 0, 2, 2], [2, 2, 0, 0, 0, 0, 0, 0, 0, 0, 1, 0, 0, 0, 0, 0, 1, 0, 0, 1, 0, 1, 0, 0, 0, 0, 0, 0, 0, 0, 0, 0, 0, 0, 0, 0, 0, 0, 0, 0, 0, 0, 1, 0, 0, 0, 1, 0, 0, 0, 0, 0, 0, 0, 0, 0, 0, 0, 0, 0, 0, 0, 0, 0, 0, 0, 0, 0, 0, 0, 0, 0, 0, 0, 0], [8, 8, 0, 0, 0, 3, 3, 0, 0, 0, 9, 0, 0, 0, 0, 2, 20, 5, 20, 30, 63, 99, 4, 0, 0, 63, 20, 2, 0, 0, 5, 0, 0, 0, 0, 5, 3, 0, 0, 0, 5, 5, 20, 0, 0, 5, 20, 0, 0, 0, 5, 5, 0, 0, 0, 5, 5, 0, 0, 0, 0, 0, 0, 0, 0, 99, 99, 0, 0, 0, 8, 8, 0, 0, 0]].getD i []
def zSl : List Nat := [4, 4, 4, 5, 5, 4, 4, 3, 5, 3, 5, 3, 4, 4, 5]
def zSb : List (List Int32) := [[115, 105, 122, 101], [119, 105, 110, 100], [110, 101, 116, 115], [99, 111, 97, 115, 116], [115, 104, 111, 97, 108], [98, 111, 97, 116], [100, 101, 97, 102], [114, 111, 119], [99, 108, 97, 105, 109], [97, 108, 108], [115, 112, 108, 105, 116], [110, 101, 116], [119, 97, 105, 116], [115, 97, 105, 100], [97, 104, 101, 97, 100]]
def zSi : List Nat := [137, 139, 141, 143, 145, 147, 149, 151, 153, 155, 157, 159, 161, 163, 165]
def zSt : List String := ["size", "wind", "nets", "coast", "shoal", "boat", "deaf", "row", "claim", "all", "split", "net", "wait", "said", "ahead"]
/-- the kind of a String of so many bytes -/
def zKs (n : Nat) : Nat := 56 + n
def zST (η : zRn) (L : List Nat) (Θ : Nat → Option Nat) (U : State) : Prop := ∃ (tb adK adV cK : Nat → Nat) (fv : Option Nat),
  (∀ i, i < 4 → va_Z RX4 (zTn i) "[I" (.ref (tb i)) (fun q => q ∈ L) U U.heap ∧ va_T .int (tb i) (zTv i).length (fun j => .int (Int32.ofInt ((zTv i).getD j 0))) (fun q => q ∈ L) U U.heap) ∧
  vk_S 15 zSl zSb adK adV (fun q => q ∈ L) U U.heap ∧ (∀ i, i < 15 → vk_R RX4 (zSi.getD i 0) (zSt.getD i "") (adK i) U) ∧
  va_Z RJ0 "COMPACT_STRINGS" "Z" (.int 1) (fun q => q ∈ L) U U.heap ∧ va_Z RJ3 "SIOOBE_FORMATTER" "Ljava/util/function/BiFunction;" (va_rf fv) (fun q => q ∈ L) U U.heap ∧
  (∀ i, i < 15 → Θ (cK i) = some (zKs (zSl.getD i 0)) ∧ cK i = 1000000 + i ∧ η.1 (cK i) = adK i) ∧ ∀ a n, 3 ≤ n → n ≤ 5 → Θ a = some (zKs n) → ∃ i, i < 15 ∧ cK i = a ∧ zSl.getD i 0 = n
theorem zST.go {L : List Nat} {Θ : Nat → Option Nat} {s U : State} (h : zST η L Θ s) (hW : s.WarmedH U.vm) (hq : ∀ q, q < s.heap.size → q ∉ L → U.heap[q]? = s.heap[q]?) : zST η L Θ U := by
  obtain ⟨tb, adK, adV, cK, fv, h1, h2, h3, h4, h5, h6, h7⟩ := h
  exact ⟨tb, adK, adV, cK, fv, fun i hi => ⟨((h1 i hi).1.moved hW.alike).kept hq, ((h1 i hi).2.moved hW.alike).kept hq⟩, (h2.moved hW.alike).kept hq, fun i hi => (h3 i hi).warm hW, (h4.moved hW.alike).kept hq, (h5.moved hW.alike).kept hq, h6, h7⟩
theorem zST.same {L : List Nat} {Θ : Nat → Option Nat} {s U : State} (h : zST η L Θ s) (hv : U.vm = s.vm) (hh : U.heap = s.heap) : zST η L Θ U := by
  obtain ⟨tb, adK, adV, cK, fv, h1, h2, h3, h4, h5, h6, h7⟩ := h
  have ha : s.vm.Alike U.vm := by rw [hv]; exact Vm.Alike.refl s.vm
  have hq : ∀ q : Nat, q < s.heap.size → ¬ (fun q => q ∈ L) q → U.heap[q]? = s.heap[q]? := fun q _ _ => by rw [hh]
  exact ⟨tb, adK, adV, cK, fv, fun i hi => ⟨((h1 i hi).1.moved ha).kept hq, ((h1 i hi).2.moved ha).kept hq⟩, (h2.moved ha).kept hq, fun i hi => (h3 i hi).same hv, (h4.moved ha).kept hq, (h5.moved ha).kept hq, h6, h7⟩
def zKP : zKPt := fun η D cy L Θ U => KW D cy U ∧ zST η L Θ U
theorem zkp_ok : zKPok vwCl tyW zKP := by
  refine ⟨fun η D cy L Θ U h => ⟨h.1.1, rfl, rfl, rfl, fun t h1 h2 => ?_⟩, fun η D cy L Θ s U h hW _ hq => ⟨h.1.warm hW, h.2.go hW hq⟩, fun η D cy L Θ U g mk a h => ⟨h.1.call, h.2.same rfl rfl⟩⟩
  rcases (show t = 3 ∨ t = 4 ∨ t = 5 ∨ t = 6 by omega) with rfl | rfl | rfl | rfl
  · exact ⟨_, rfl⟩
  · exact ⟨_, rfl⟩
  · exact ⟨_, rfl⟩
  · exact ⟨_, rfl⟩
end
section
variable {η : zRn}
/-! steps of their own: a table of the class, a sum that turns round, arraycopy -/
section ZTB
variable {kds : List zKD} {cl : List vw_C} {tyf : (Nat → ClassId) → List (ClassId × FieldType)} {l : Launch} {cc : ByteArray} {nL fr lo : Nat} {eff : List (Nat × Nat × Nat)}
/-- the walk over a table's read: from the local's number to the table's -/
def zTabW (l : Launch) (cc : ByteArray) (pc len ti i : Nat) (d : Int) : Prop :=
  ∀ (p : Program) (e : Env) (R : Room) (s : State) (m : MethodId) (args : Array Value) (below : List Frame) (meth : Method) (c : Code) (Q : State → Prop) (H : Heap) (locs : List Loc) (ls : Array Slot) (rest : List Value) (A : Nat → Prop) (tb : Nat) (x : Int32),
    p.tables.exec = Jvm.exec → c.code = cc → s.vm.findClass RX4 = some m.cls → (∀ w ∈ zTW, w.before args s = true) → va_Z RX4 (zTn ti) "[I" (.ref tb) A s s.heap → va_T .int tb (zTv ti).length (fun j => .int (Int32.ofInt ((zTv ti).getD j 0))) A s s.heap → va_S A s.heap H locs →
    ls[i]? = some (.val (.int x)) → 0 ≤ x.toInt + d → x.toInt + d < ((zTv ti).length : Int) → W p l e R s m args below meth c H locs 0 0 Q (F0 m (pc + len) ls (.int (Int32.ofInt ((zTv ti).getD (x.toInt + d).toNat 0)) :: rest)) → W p l e R s m args below meth c H locs 0 0 Q (F0 m pc ls rest)
theorem z_tab0 {pc ti i idx len ll : Nat} (hlk : Cond.fieldLink RX4 idx RX4 (zTn ti) "[I" ∈ zTW) (hd1 : decode cc pc = .ok (.getstatic idx, 3)) (hld : decode cc (pc + 3) = .ok (.iload i, ll) ∨ ∃ k : Fin 4, decode cc (pc + 3) = .ok (.iload_n k, ll) ∧ k.val = i) (hll : decode cc (pc + 3) = .ok (.iload i, ll) → ll = 2) (hl1 : (∃ k : Fin 4, decode cc (pc + 3) = .ok (.iload_n k, ll)) → ll = 1)
    (hd2 : decode cc (pc + 3 + ll) = .ok (.iaload, 1)) (hn : pc + len = pc + 3 + ll + 1) : zTabW l cc pc len ti i 0 := by
  intro p e R s m args below meth c Q H locs ls rest A tb x hexec hb hown hts hZ hT hS hx h1 h2 k
  rw [hn] at k
  refine va_gets hexec hb hZ hS hown (hts _ hlk) (fun _ h => h) hd1 ?_
  have hv := z_vin (i := x) (n := (zTv ti).length) (by omega) (by omega)
  rw [Int.add_zero] at k
  rcases hld with hld | ⟨kk, hld, rfl⟩
  · have := hll hld
    subst this
    refine lv_iload hexec hb hld hx ?_
    exact va_ti hexec hb hT hS hv.1 (by rw [hv.2]) hd2 k
  · have := hl1 ⟨kk, hld⟩
    subst this
    refine lv_iload_n hexec hb hld rfl hx ?_
    exact va_ti hexec hb hT hS hv.1 (by rw [hv.2]) hd2 k
theorem z_tab1 {pc ti i idx len : Nat} {kk : Fin 4} (hlk : Cond.fieldLink RX4 idx RX4 (zTn ti) "[I" ∈ zTW) (hd1 : decode cc pc = .ok (.getstatic idx, 3)) (hld : decode cc (pc + 3) = .ok (.iload_n kk, 1)) (hk : kk.val = i) (hd3 : decode cc (pc + 3 + 1) = .ok (.iconst 1, 1)) (hd4 : decode cc (pc + 3 + 1 + 1) = .ok (.iadd, 1)) (hd2 : decode cc (pc + 3 + 1 + 1 + 1) = .ok (.iaload, 1))
    (hT5 : ((zTv ti).length : Int) ≤ 1000) (hn : pc + len = pc + 3 + 1 + 1 + 1 + 1) : zTabW l cc pc len ti i 1 := by
  intro p e R s m args below meth c Q H locs ls rest A tb x hexec hb hown hts hZ hT hS hx h1 h2 k
  rw [hn] at k
  subst hk
  refine va_gets hexec hb hZ hS hown (hts _ hlk) (fun _ h => h) hd1 ?_
  have e1 : (1 : Int32).toInt = 1 := rfl
  have hs : (x + 1).toInt = x.toInt + 1 := by
    have := z_lo x
    rw [z_add (by rw [e1]; omega) (by rw [e1]; omega), e1]
  have hv := z_vin (i := x + 1) (n := (zTv ti).length) (by omega) (by omega)
  refine lv_iload_n hexec hb hld rfl hx ?_
  refine lv_iconst (v := 1) hexec hb hd3 (by decide +kernel) ?_
  refine lv_iadd hexec hb hd4 ?_
  rw [← hs] at k
  exact va_ti hexec hb hT hS hv.1 (by rw [hv.2]) hd2 k
end ZTB
end
section
variable {η : zRn}
/-! arraycopy -/
def zrow (h : Nat → Nat → Int) (a : Nat) (r : Nat → Int) : Nat → Nat → Int := fun b => if b = a then r else h b
theorem zrow_at (h : Nat → Nat → Int) (a : Nat) (r : Nat → Int) : zrow h a r a = r := by unfold zrow; rw [if_pos rfl]
theorem zrow_ne {h : Nat → Nat → Int} {a b : Nat} {r : Nat → Int} (e : ¬ b = a) : zrow h a r b = h b := by unfold zrow; rw [if_neg e]
theorem zH_row {kds : List zKD} {D : va_G} {cl : List vw_C} {cy : Nat → ClassId} {L : List Nat} {Θ : Nat → Option Nat} {A : Nat → Prop} {h : Nat → Nat → Int} {H H1 : Heap} {a k q0 : Nat} {K : zKD} {r : Nat → Int} (g : zH η kds D cl cy L Θ h H) (hD : va_D A ([] ++ va_pl L (zF η kds cy Θ h))) (h1 : Θ a = some k) (h2 : kds[k]? = some K) (h3 : K.1 ≤ 2)
    (hx : ∀ j, j < K.2.2.1 → zok Θ (zty K j).1 (r j) ∧ (zty K j).2.1 ≤ r j ∧ r j ≤ (zty K j).2.2) (hq : ([] ++ va_pl L (zF η kds cy Θ h))[q0]? = some (η.1 a, zE η cy K (h a)))
    (hP : va_P D cl (([] ++ va_pl L (zF η kds cy Θ h)).set q0 (η.1 a, zE η cy K r)) H1) : zH η kds D cl cy L Θ (zrow h a r) H1 := by
  obtain ⟨K', e1, e2, -⟩ := g.2.2 a k h1
  cases h2.symm.trans e1
  obtain ⟨e3, e4⟩ := e2 h3
  refine ⟨?_, g.2.1, fun b kb hb => ?_⟩
  · rw [va_pl_set hD e3 (by rw [hq, zF_at e4 h1 h2])] at hP
    rw [zpl_congr (g := va_up (zF η kds cy Θ h) (η.1 a) (zE η cy K r))]
    · exact hP
    · intro b hbL
      by_cases hb : b = η.1 a
      · subst hb
        rw [va_up_self, zF_at e4 h1 h2, zrow_at]
      · rw [va_up_ne _ _ hb]
        unfold zF zf
        rw [zrow_ne (fun e => hb (by rw [← e]; exact (g.2.1 b hbL).symm))]
  · obtain ⟨Kb, f1, f2, f3⟩ := g.2.2 b kb hb
    refine ⟨Kb, f1, f2, fun i hi => ?_⟩
    by_cases e : b = a
    · subst e
      cases h1.symm.trans hb
      cases h2.symm.trans f1
      rw [zrow_at]
      exact hx i hi
    · rw [zrow_ne e]
      exact f3 i hi
/-- one type each, and the one within the other -/
def zone (K0 K1 : zKD) : Bool := match K0.2.2.2, K1.2.2.2 with
  | [t0], [t1] => decide (t0.1 = 0) && decide (t1.1 = 0) && decide (t1.2.1 ≤ t0.2.1) && decide (t0.2.2 ≤ t1.2.2)
  | _, _ => false
theorem z_one {K0 K1 : zKD} (h : zone K0 K1 = true) (i j : Nat) : (zty K0 i).1 = 0 ∧ (zty K1 j).1 = 0 ∧ (zty K1 j).2.1 ≤ (zty K0 i).2.1 ∧ (zty K0 i).2.2 ≤ (zty K1 j).2.2 := by
  unfold zone at h
  split at h
  · rename_i t0 t1 h0 h1
    simp only [Bool.and_eq_true, decide_eq_true_eq] at h
    unfold zty
    rw [h0, h1]
    simp only [List.length_cons, List.length_nil, Nat.zero_add, Nat.mod_one, List.getD_cons_zero]
    exact ⟨h.1.1.1, h.1.1.2, h.1.2, h.2⟩
  · cases h
theorem z_fb8 : ∀ k : Fin 256, fits .byte (.int (Int32.ofInt ((k.val : Int) - 128))) = true := by decide +kernel
theorem z_fitb {x : Int} (h1 : -128 ≤ x) (h2 : x ≤ 127) : fits .byte (.int (Int32.ofInt x)) = true := by
  have := z_fb8 ⟨(x + 128).toNat, by omega⟩
  simp only at this
  rw [show ((x + 128).toNat : Int) - 128 = x by omega] at this
  exact this
section ZCP
variable {kds : List zKD} {cl : List vw_C} {tyf : (Nat → ClassId) → List (ClassId × FieldType)} {l : Launch} {cc : ByteArray} {nL fr lo : Nat} {eff : List (Nat × Nat × Nat)} {own : String} {KP : zKPt} {TW : List Cond}
end ZCP
end
section
variable {η : zRn}
/-! String constants: length, charAt -/
set_option maxRecDepth 100000 in
theorem zq_J0_coder_7d493 : lw_tbl[692]? = some (.code yJ0_coder_7d493 cJ0_coder_7d493 1 (some .byte)) := rfl
theorem zw_J0_coder_7d493 : zMV yJ0_coder_7d493 cJ0_coder_7d493 1 (some .byte) 0 := ⟨⟨zTin 114 (by decide +kernel) rfl, zTin 692 zq_J0_coder_7d493 rfl, ⟨by decide, by decide⟩, by decide +kernel⟩, zTin 690 (by decide +kernel) rfl, zTin 691 (by decide +kernel) rfl⟩
theorem zt_J0_coder_7d493_0 : decode cJ0_coder_7d493 0 = .ok (.getstatic 38, 3) := by decide +kernel
theorem zt_J0_coder_7d493_3 : decode cJ0_coder_7d493 3 = .ok (.ifCond .eq 10, 3) := by decide +kernel
theorem zt_J0_coder_7d493_6 : decode cJ0_coder_7d493 6 = .ok (.aload_n 0, 1) := by decide +kernel
theorem zt_J0_coder_7d493_7 : decode cJ0_coder_7d493 7 = .ok (.getfield 15, 3) := by decide +kernel
theorem zt_J0_coder_7d493_10 : decode cJ0_coder_7d493 10 = .ok (.goto 4, 3) := by decide +kernel
theorem zt_J0_coder_7d493_14 : decode cJ0_coder_7d493 14 = .ok (.ireturn, 1) := by decide +kernel
set_option maxRecDepth 100000 in
theorem zq_J0_length_8abf5 : lw_tbl[688]? = some (.code yJ0_length_8abf5 cJ0_length_8abf5 1 (some .int)) := rfl
theorem zw_J0_length_8abf5 : zMV yJ0_length_8abf5 cJ0_length_8abf5 1 (some .int) 0 := ⟨⟨zTin 114 (by decide +kernel) rfl, zTin 688 zq_J0_length_8abf5 rfl, ⟨by decide, by decide⟩, by decide +kernel⟩, zTin 686 (by decide +kernel) rfl, zTin 687 (by decide +kernel) rfl⟩
theorem zt_J0_length_8abf5_0 : decode cJ0_length_8abf5 0 = .ok (.aload_n 0, 1) := by decide +kernel
theorem zt_J0_length_8abf5_1 : decode cJ0_length_8abf5 1 = .ok (.getfield 9, 3) := by decide +kernel
theorem zt_J0_length_8abf5_4 : decode cJ0_length_8abf5 4 = .ok (.arraylength, 1) := by decide +kernel
theorem zt_J0_length_8abf5_5 : decode cJ0_length_8abf5 5 = .ok (.aload_n 0, 1) := by decide +kernel
theorem zt_J0_length_8abf5_6 : decode cJ0_length_8abf5 6 = .ok (.invokevirtual 335, 3) := by decide +kernel
theorem zt_J0_length_8abf5_9 : decode cJ0_length_8abf5 9 = .ok (.ishr, 1) := by decide +kernel
theorem zt_J0_length_8abf5_10 : decode cJ0_length_8abf5 10 = .ok (.ireturn, 1) := by decide +kernel
set_option maxRecDepth 100000 in
theorem zq_J0_isLatin1_aae02 : lw_tbl[702]? = some (.code yJ0_isLatin1_aae02 cJ0_isLatin1_aae02 1 (some .boolean)) := rfl
theorem zw_J0_isLatin1_aae02 : zMV yJ0_isLatin1_aae02 cJ0_isLatin1_aae02 1 (some .boolean) 0 := ⟨⟨zTin 114 (by decide +kernel) rfl, zTin 702 zq_J0_isLatin1_aae02 rfl, ⟨by decide, by decide⟩, by decide +kernel⟩, zTin 700 (by decide +kernel) rfl, zTin 701 (by decide +kernel) rfl⟩
theorem zt_J0_isLatin1_aae02_0 : decode cJ0_isLatin1_aae02 0 = .ok (.getstatic 38, 3) := by decide +kernel
theorem zt_J0_isLatin1_aae02_3 : decode cJ0_isLatin1_aae02 3 = .ok (.ifCond .eq 14, 3) := by decide +kernel
theorem zt_J0_isLatin1_aae02_6 : decode cJ0_isLatin1_aae02 6 = .ok (.aload_n 0, 1) := by decide +kernel
theorem zt_J0_isLatin1_aae02_7 : decode cJ0_isLatin1_aae02 7 = .ok (.getfield 15, 3) := by decide +kernel
theorem zt_J0_isLatin1_aae02_10 : decode cJ0_isLatin1_aae02 10 = .ok (.ifCond .ne 7, 3) := by decide +kernel
theorem zt_J0_isLatin1_aae02_13 : decode cJ0_isLatin1_aae02 13 = .ok (.iconst 1, 1) := by decide +kernel
theorem zt_J0_isLatin1_aae02_14 : decode cJ0_isLatin1_aae02 14 = .ok (.goto 4, 3) := by decide +kernel
theorem zt_J0_isLatin1_aae02_18 : decode cJ0_isLatin1_aae02 18 = .ok (.ireturn, 1) := by decide +kernel
set_option maxRecDepth 100000 in
theorem zq_J3_checkIndex_8e157 : lw_tbl[713]? = some (.code yJ3_checkIndex_8e157 cJ3_checkIndex_8e157 3 (some .int)) := rfl
theorem zw_J3_checkIndex_8e157 : zMS yJ3_checkIndex_8e157 cJ3_checkIndex_8e157 3 (some .int) 3 := ⟨⟨zTin 116 (by decide +kernel) rfl, zTin 713 zq_J3_checkIndex_8e157 rfl, ⟨by decide, by decide⟩, by decide +kernel⟩, zTin 712 (by decide +kernel) rfl⟩
theorem zt_J3_checkIndex_8e157_0 : decode cJ3_checkIndex_8e157 0 = .ok (.iload_n 0, 1) := by decide +kernel
theorem zt_J3_checkIndex_8e157_1 : decode cJ3_checkIndex_8e157 1 = .ok (.ifCond .lt 8, 3) := by decide +kernel
theorem zt_J3_checkIndex_8e157_4 : decode cJ3_checkIndex_8e157 4 = .ok (.iload_n 0, 1) := by decide +kernel
theorem zt_J3_checkIndex_8e157_5 : decode cJ3_checkIndex_8e157 5 = .ok (.iload_n 1, 1) := by decide +kernel
theorem zt_J3_checkIndex_8e157_6 : decode cJ3_checkIndex_8e157 6 = .ok (.if_icmp .lt 10, 3) := by decide +kernel
theorem zt_J3_checkIndex_8e157_16 : decode cJ3_checkIndex_8e157 16 = .ok (.iload_n 0, 1) := by decide +kernel
theorem zt_J3_checkIndex_8e157_17 : decode cJ3_checkIndex_8e157 17 = .ok (.ireturn, 1) := by decide +kernel
set_option maxRecDepth 100000 in
theorem zq_J0_checkIndex_df160 : lw_tbl[708]? = some (.code yJ0_checkIndex_df160 cJ0_checkIndex_df160 2 none) := rfl
theorem zw_J0_checkIndex_df160 : zMS yJ0_checkIndex_df160 cJ0_checkIndex_df160 2 none 2 := ⟨⟨zTin 114 (by decide +kernel) rfl, zTin 708 zq_J0_checkIndex_df160 rfl, ⟨by decide, by decide⟩, by decide +kernel⟩, zTin 707 (by decide +kernel) rfl⟩
theorem zt_J0_checkIndex_df160_0 : decode cJ0_checkIndex_df160 0 = .ok (.iload_n 0, 1) := by decide +kernel
theorem zt_J0_checkIndex_df160_1 : decode cJ0_checkIndex_df160 1 = .ok (.iload_n 1, 1) := by decide +kernel
theorem zt_J0_checkIndex_df160_2 : decode cJ0_checkIndex_df160 2 = .ok (.getstatic 1053, 3) := by decide +kernel
theorem zt_J0_checkIndex_df160_5 : decode cJ0_checkIndex_df160 5 = .ok (.invokestatic 1059, 3) := by decide +kernel
theorem zt_J0_checkIndex_df160_8 : decode cJ0_checkIndex_df160 8 = .ok (.pop, 1) := by decide +kernel
theorem zt_J0_checkIndex_df160_9 : decode cJ0_checkIndex_df160 9 = .ok (.return_, 1) := by decide +kernel
set_option maxRecDepth 100000 in
theorem zq_J1_charAt_3b067 : lw_tbl[705]? = some (.code yJ1_charAt_3b067 cJ1_charAt_3b067 2 (some .char)) := rfl
theorem zw_J1_charAt_3b067 : zMS yJ1_charAt_3b067 cJ1_charAt_3b067 2 (some .char) 2 := ⟨⟨zTin 115 (by decide +kernel) rfl, zTin 705 zq_J1_charAt_3b067 rfl, ⟨by decide, by decide⟩, by decide +kernel⟩, zTin 704 (by decide +kernel) rfl⟩
theorem zt_J1_charAt_3b067_0 : decode cJ1_charAt_3b067 0 = .ok (.iload_n 1, 1) := by decide +kernel
theorem zt_J1_charAt_3b067_1 : decode cJ1_charAt_3b067 1 = .ok (.aload_n 0, 1) := by decide +kernel
theorem zt_J1_charAt_3b067_2 : decode cJ1_charAt_3b067 2 = .ok (.arraylength, 1) := by decide +kernel
theorem zt_J1_charAt_3b067_3 : decode cJ1_charAt_3b067 3 = .ok (.invokestatic 9, 3) := by decide +kernel
theorem zt_J1_charAt_3b067_6 : decode cJ1_charAt_3b067 6 = .ok (.aload_n 0, 1) := by decide +kernel
theorem zt_J1_charAt_3b067_7 : decode cJ1_charAt_3b067 7 = .ok (.iload_n 1, 1) := by decide +kernel
theorem zt_J1_charAt_3b067_8 : decode cJ1_charAt_3b067 8 = .ok (.baload, 1) := by decide +kernel
theorem zt_J1_charAt_3b067_9 : decode cJ1_charAt_3b067 9 = .ok (.sipush 255, 3) := by decide +kernel
theorem zt_J1_charAt_3b067_12 : decode cJ1_charAt_3b067 12 = .ok (.iand, 1) := by decide +kernel
theorem zt_J1_charAt_3b067_13 : decode cJ1_charAt_3b067 13 = .ok (.i2c, 1) := by decide +kernel
theorem zt_J1_charAt_3b067_14 : decode cJ1_charAt_3b067 14 = .ok (.ireturn, 1) := by decide +kernel
set_option maxRecDepth 100000 in
theorem zq_J0_charAt_5068e : lw_tbl[698]? = some (.code yJ0_charAt_5068e cJ0_charAt_5068e 2 (some .char)) := rfl
theorem zw_J0_charAt_5068e : zMV yJ0_charAt_5068e cJ0_charAt_5068e 2 (some .char) 1 := ⟨⟨zTin 114 (by decide +kernel) rfl, zTin 698 zq_J0_charAt_5068e rfl, ⟨by decide, by decide⟩, by decide +kernel⟩, zTin 696 (by decide +kernel) rfl, zTin 697 (by decide +kernel) rfl⟩
theorem zt_J0_charAt_5068e_0 : decode cJ0_charAt_5068e 0 = .ok (.aload_n 0, 1) := by decide +kernel
theorem zt_J0_charAt_5068e_1 : decode cJ0_charAt_5068e 1 = .ok (.invokevirtual 492, 3) := by decide +kernel
theorem zt_J0_charAt_5068e_4 : decode cJ0_charAt_5068e 4 = .ok (.ifCond .eq 12, 3) := by decide +kernel
theorem zt_J0_charAt_5068e_7 : decode cJ0_charAt_5068e 7 = .ok (.aload_n 0, 1) := by decide +kernel
theorem zt_J0_charAt_5068e_8 : decode cJ0_charAt_5068e 8 = .ok (.getfield 9, 3) := by decide +kernel
theorem zt_J0_charAt_5068e_11 : decode cJ0_charAt_5068e 11 = .ok (.iload_n 1, 1) := by decide +kernel
theorem zt_J0_charAt_5068e_12 : decode cJ0_charAt_5068e 12 = .ok (.invokestatic 495, 3) := by decide +kernel
theorem zt_J0_charAt_5068e_15 : decode cJ0_charAt_5068e 15 = .ok (.ireturn, 1) := by decide +kernel
theorem zy_38 : Cond.fieldLink RJ0 38 RJ0 "COMPACT_STRINGS" "Z" ∈ zTW := zTin 693 (by decide +kernel) rfl
theorem zy_15 : Cond.fieldLink RJ0 15 RJ0 "coder" "B" ∈ zTW := zTin 1939 (by decide +kernel) rfl
theorem zy_9 : Cond.fieldLink RJ0 9 RJ0 "value" "[B" ∈ zTW := zTin 1938 (by decide +kernel) rfl
theorem zy_1053 : Cond.fieldLink RJ0 1053 RJ3 "SIOOBE_FORMATTER" "Ljava/util/function/BiFunction;" ∈ zTW := zTin 709 (by decide +kernel) rfl
theorem zy_335 : Cond.methodLink RJ0 335 yJ0_coder_7d493 ∈ zTW := zTin 689 (by decide +kernel) rfl
theorem zy_492 : Cond.methodLink RJ0 492 yJ0_isLatin1_aae02 ∈ zTW := zTin 699 (by decide +kernel) rfl
theorem zy_495 : Cond.methodLink RJ0 495 yJ1_charAt_3b067 ∈ zTW := zTin 703 (by decide +kernel) rfl
theorem zy_j9 : Cond.methodLink RJ1 9 yJ0_checkIndex_df160 ∈ zTW := zTin 706 (by decide +kernel) rfl
theorem zy_1059 : Cond.methodLink RJ0 1059 yJ3_checkIndex_8e157 ∈ zTW := zTin 711 (by decide +kernel) rfl
def zSP (L : List Nat) (adK adV : Nat → Nat) (fv : Option Nat) (U : State) : Prop := vk_S 15 zSl zSb adK adV (fun q => q ∈ L) U U.heap ∧ va_Z RJ0 "COMPACT_STRINGS" "Z" (.int 1) (fun q => q ∈ L) U U.heap ∧ va_Z RJ3 "SIOOBE_FORMATTER" "Ljava/util/function/BiFunction;" (va_rf fv) (fun q => q ∈ L) U U.heap
theorem zSP.go {L : List Nat} {adK adV : Nat → Nat} {fv : Option Nat} {s U : State} {H : Heap} {locs : List Loc} (h : zSP L adK adV fv s) (hS : va_S (fun q => q ∈ L) s.heap H locs) (hU : U.heap = H) (hW : s.WarmedH U.vm) : zSP L adK adV fv U := by
  subst hU
  exact ⟨(h.1.moved hW.alike).kept hS.2.1, (h.2.1.moved hW.alike).kept hS.2.1, (h.2.2.moved hW.alike).kept hS.2.1⟩
theorem zSP.blind {L : List Nat} {adK adV : Nat → Nat} {fv : Option Nat} {av : List Value} : FrameBlind (va_Pc av (zSP L adK adV fv)) := fun _ U g mk q => ⟨q.1, q.2.1.moved (u := U) (U := U.calling g mk _) (Vm.Alike.refl U.vm), q.2.2.1.moved (u := U) (U := U.calling g mk _) (Vm.Alike.refl U.vm), q.2.2.2.moved (u := U) (U := U.calling g mk _) (Vm.Alike.refl U.vm)⟩
def zSv : Array Value → State → Outcome → State → Prop := fun _ st o t => o = .returned none ∧ t.heap = st.heap
theorem pc_v0 {p : Program} {l : Launch} {e : Env} {R : Room} {s : State} {m : MethodId} {args : Array Value} {below : List Frame} {meth : Method} {c : Code} {H : Heap} {locs : List Loc} {cells slots : Nat} {Q : State → Prop} {pc : Nat} {ls : Array Slot} {rest st0 : List Value} {a : Array Value} (hr : va_Run p l e R s m args below meth c H locs cells slots 0 0 (F0 m pc ls st0) rest (zSv a) (fun _ => False))
    (kk : W p l e R s m args below meth c H locs cells slots Q (F0 m (pc + 3) ls rest)) : W p l e R s m args below meth c H locs cells slots Q (F0 m pc ls st0) := by
  intro T hT X
  obtain ⟨v, st₀, t, T', L, h0, X', hL, e1, e2, ⟨hv, hh⟩, st⟩ := hr T hT X
  cases hv
  obtain ⟨t2, a1, b1⟩ := kk T' (by rw [e1, hh, h0]) (Stand.forget X' (fun q h => (hL q h).elim))
  exact ⟨t2, st t2 a1, b1⟩
theorem z_good0 {w1 : Cond} (h1 : w1 ∈ zTW) : GoodIn zTW (w1 :: zTW) := by
  intro w hw
  rcases List.mem_cons.mp hw with rfl | hw
  · exact ⟨h1, zTW_good _ h1⟩
  · exact ⟨hw, zTW_good _ hw⟩
theorem z_s1 : ∀ i : Fin 15, (Int32.ofNat (zSl.getD i.val 0)) >>> ((0 : Int32) &&& 31) = Int32.ofNat (zSl.getD i.val 0) := by decide +kernel
theorem z_s2 : ∀ i : Fin 15, ∀ j : Fin 5, (0 ≤ ((((zSb.getD i.val []).getD j.val 0) &&& 255).toUInt32 % 65536).toInt32.toInt ∧ ((((zSb.getD i.val []).getD j.val 0) &&& 255).toUInt32 % 65536).toInt32.toInt ≤ 255) ∧ narrow .char (.int ((((zSb.getD i.val []).getD j.val 0) &&& 255).toUInt32 % 65536).toInt32) = .int ((((zSb.getD i.val []).getD j.val 0) &&& 255).toUInt32 % 65536).toInt32 := by decide +kernel
theorem z_s3 : ∀ i : Fin 15, 3 ≤ zSl.getD i.val 0 ∧ zSl.getD i.val 0 ≤ 5 ∧ (Int32.ofNat (zSl.getD i.val 0)).toInt = (zSl.getD i.val 0 : Int) := by decide +kernel
set_option maxHeartbeats 4000000 in
set_option maxRecDepth 100000 in
theorem zS_coder (l : Launch) (L : List Nat) (adK adV : Nat → Nat) (fv : Option Nat) {i : Nat} (hi : i < 15) : Met l yJ0_coder_7d493 (Cond.code yJ0_coder_7d493 cJ0_coder_7d493 1 (some .byte) :: zTW) ({ frames := 0, cells := 0, slots := 0, locals := 0 } : Room) (va_Pc ([.ref (adK i)]) (zSP L adK adV fv)) (vp_Si (fun r => r = 0)) 0 0 (fun _ => False) := by
  refine Met.ofW (cc := cJ0_coder_7d493) (maxL := 1) (ret := (some .byte)) (by decide +kernel) rfl ?_
  intro p e s m args below meth c s₁ B hml hv
  obtain ⟨rfl, hSP⟩ := hv
  have hE := hSP.1
  have hx := B.exec
  have hb := B.bytes
  have hr := B.returns
  have hts0 := atoms_spec (ws := Cond.code yJ0_coder_7d493 cJ0_coder_7d493 1 (some .byte) :: zTW) B.pre
  have hts : ∀ w ∈ zTW, w.before _ s = true := fun w hw => hts0 w (List.mem_cons_of_mem _ hw)
  have hown : s.vm.findClass RJ0 = some m.cls := findClass_of_methodNamed B.named
  have hlocks := B.notSynchronized
  have hS : va_S (fun q => q ∈ L) s.heap s.heap [] := va_S.rf
  have hl := lv_entry ([.ref (adK i)]) (n := 1) (Nat.le_of_ble_eq_true rfl)
  rw [lg_entry_eq]
  generalize (lg_sl ([.ref (adK i)]) ++ List.replicate (1 - (lg_sl ([.ref (adK i)])).length) Slot.unset).toArray = ls at hl ⊢
  have hl : lv_has ls 1 [(0, .ref (adK i))] := hl
  refine va_gets hx hb hSP.2.1 hS hown (hts _ zy_38) (fun _ h => h) zt_J0_coder_7d493_0 ?_
  refine lv_if_eq (tgt := 13) hx hb zt_J0_coder_7d493_3 (by decide) (fun h => absurd h (by decide)) (fun _ => ?_)
  refine lv_aload_n hx hb zt_J0_coder_7d493_6 rfl (lv_at hl 0 rfl) ?_
  refine vk_getf hx hb (hE.1 i hi).2.1 hS hown (hts _ zy_15) (fun _ h => h) zt_J0_coder_7d493_7 ?_
  refine lv_goto (tgt := 14) hx hb zt_J0_coder_7d493_10 (by decide) ?_
  exact W.zret (v := 0) hx hb hr (by decide +kernel) (fun t ht hW => ⟨0, rfl, rfl, ht⟩) (fun _ h => absurd h List.not_mem_nil) zt_J0_coder_7d493_14
set_option maxHeartbeats 4000000 in
set_option maxRecDepth 100000 in
theorem zS_latin (l : Launch) (L : List Nat) (adK adV : Nat → Nat) (fv : Option Nat) {i : Nat} (hi : i < 15) : Met l yJ0_isLatin1_aae02 (Cond.code yJ0_isLatin1_aae02 cJ0_isLatin1_aae02 1 (some .boolean) :: zTW) ({ frames := 0, cells := 0, slots := 0, locals := 0 } : Room) (va_Pc ([.ref (adK i)]) (zSP L adK adV fv)) (vp_Si (fun r => r = 1)) 0 0 (fun _ => False) := by
  refine Met.ofW (cc := cJ0_isLatin1_aae02) (maxL := 1) (ret := (some .boolean)) (by decide +kernel) rfl ?_
  intro p e s m args below meth c s₁ B hml hv
  obtain ⟨rfl, hSP⟩ := hv
  have hE := hSP.1
  have hx := B.exec
  have hb := B.bytes
  have hr := B.returns
  have hts0 := atoms_spec (ws := Cond.code yJ0_isLatin1_aae02 cJ0_isLatin1_aae02 1 (some .boolean) :: zTW) B.pre
  have hts : ∀ w ∈ zTW, w.before _ s = true := fun w hw => hts0 w (List.mem_cons_of_mem _ hw)
  have hown : s.vm.findClass RJ0 = some m.cls := findClass_of_methodNamed B.named
  have hlocks := B.notSynchronized
  have hS : va_S (fun q => q ∈ L) s.heap s.heap [] := va_S.rf
  have hl := lv_entry ([.ref (adK i)]) (n := 1) (Nat.le_of_ble_eq_true rfl)
  rw [lg_entry_eq]
  generalize (lg_sl ([.ref (adK i)]) ++ List.replicate (1 - (lg_sl ([.ref (adK i)])).length) Slot.unset).toArray = ls at hl ⊢
  have hl : lv_has ls 1 [(0, .ref (adK i))] := hl
  refine va_gets hx hb hSP.2.1 hS hown (hts _ zy_38) (fun _ h => h) zt_J0_isLatin1_aae02_0 ?_
  refine lv_if_eq (tgt := 17) hx hb zt_J0_isLatin1_aae02_3 (by decide) (fun h => absurd h (by decide)) (fun _ => ?_)
  refine lv_aload_n hx hb zt_J0_isLatin1_aae02_6 rfl (lv_at hl 0 rfl) ?_
  refine vk_getf hx hb (hE.1 i hi).2.1 hS hown (hts _ zy_15) (fun _ h => h) zt_J0_isLatin1_aae02_7 ?_
  refine lv_if_ne (tgt := 17) hx hb zt_J0_isLatin1_aae02_10 (by decide) (fun h => absurd rfl h) (fun _ => ?_)
  refine lv_iconst (v := 1) hx hb zt_J0_isLatin1_aae02_13 (by decide +kernel) ?_
  refine lv_goto (tgt := 18) hx hb zt_J0_isLatin1_aae02_14 (by decide) ?_
  exact W.zret (v := 1) hx hb hr (by decide +kernel) (fun t ht hW => ⟨1, rfl, rfl, ht⟩) (fun _ h => absurd h List.not_mem_nil) zt_J0_isLatin1_aae02_18
set_option maxHeartbeats 4000000 in
set_option maxRecDepth 100000 in
theorem zS_length (l : Launch) (L : List Nat) (adK adV : Nat → Nat) (fv : Option Nat) {i : Nat} (hi : i < 15) : Met l yJ0_length_8abf5 (Cond.code yJ0_length_8abf5 cJ0_length_8abf5 1 (some .int) :: zTW) ({ frames := 1, cells := 0, slots := 0, locals := 20 } : Room) (va_Pc ([.ref (adK i)]) (zSP L adK adV fv)) (vp_Si (fun r => r = Int32.ofNat (zSl.getD i 0))) 0 0 (fun _ => False) := by
  refine Met.ofW (cc := cJ0_length_8abf5) (maxL := 1) (ret := (some .int)) (by decide +kernel) rfl ?_
  intro p e s m args below meth c s₁ B hml hv
  obtain ⟨rfl, hSP⟩ := hv
  have hE := hSP.1
  have hx := B.exec
  have hb := B.bytes
  have hr := B.returns
  have hts0 := atoms_spec (ws := Cond.code yJ0_length_8abf5 cJ0_length_8abf5 1 (some .int) :: zTW) B.pre
  have hts : ∀ w ∈ zTW, w.before _ s = true := fun w hw => hts0 w (List.mem_cons_of_mem _ hw)
  have hown : s.vm.findClass RJ0 = some m.cls := findClass_of_methodNamed B.named
  have hlocks := B.notSynchronized
  have hS : va_S (fun q => q ∈ L) s.heap s.heap [] := va_S.rf
  have hl := lv_entry ([.ref (adK i)]) (n := 1) (Nat.le_of_ble_eq_true rfl)
  rw [lg_entry_eq]
  generalize (lg_sl ([.ref (adK i)]) ++ List.replicate (1 - (lg_sl ([.ref (adK i)])).length) Slot.unset).toArray = ls at hl ⊢
  have hl : lv_has ls 1 [(0, .ref (adK i))] := hl
  refine lv_aload_n hx hb zt_J0_length_8abf5_0 rfl (lv_at hl 0 rfl) ?_
  refine vk_getf hx hb (hE.1 i hi).2.2.1 hS hown (hts _ zy_9) (fun _ h => h) zt_J0_length_8abf5_1 ?_
  refine va_tlen (v := Int32.ofNat (zSl.getD i 0)) hx hb (hE.1 i hi).2.2.2 hS rfl zt_J0_length_8abf5_4 ?_
  refine lv_aload_n hx hb zt_J0_length_8abf5_5 rfl (lv_at hl 0 rfl) ?_
  refine pc_i (va_runV (C := RJ0) (n := 0) (As := []) (rest := [.int (Int32.ofNat (zSl.getD i 0))]) (bytes := cJ0_coder_7d493) (maxL := 1) (ret := (some .byte)) ⟨hx, hb, hml, hown, hts0⟩ (zS_coder l L adK adV fv hi) ⟨callB_of _ hts0 (z_good zTW_good zw_J0_coder_7d493.1.2.1) rfl rfl rfl (hts _ zw_J0_coder_7d493.1.1) (hts _ zy_335) ⟨zw_J0_coder_7d493.1.2.2.1.1, zw_J0_coder_7d493.1.2.2.1.2, zw_J0_coder_7d493.1.2.2.2⟩ ⟨by decide, by decide⟩, hts _ zw_J0_coder_7d493.2.1, hts _ zw_J0_coder_7d493.2.2⟩ ⟨zSP.blind, vk_recv hE hi hS, fun U hU hW => ⟨rfl, hSP.go hS hU hW⟩⟩ rfl rfl hl.1 rfl (lv_room (Nat.le_of_ble_eq_true rfl)) zt_J0_length_8abf5_6 ⟨Nat.zero_le _, Nat.zero_le _⟩) (fun r hr0 => ?_)
  subst hr0
  refine lv_ishr hx hb zt_J0_length_8abf5_9 ?_
  rw [z_s1 ⟨i, hi⟩]
  exact W.iret hx hb hr (fun t ht hW => ⟨_, rfl, rfl, ht⟩) (fun _ h => absurd h List.not_mem_nil) zt_J0_length_8abf5_10
set_option maxHeartbeats 4000000 in
set_option maxRecDepth 100000 in
theorem zS_check3 (l : Launch) (L : List Nat) (adK adV : Nat → Nat) (fv : Option Nat) {x n : Int32} (h1 : 0 ≤ x.toInt) (h2 : x.toInt < n.toInt) : Met l yJ3_checkIndex_8e157 (Cond.code yJ3_checkIndex_8e157 cJ3_checkIndex_8e157 3 (some .int) :: zTW) ({ frames := 0, cells := 0, slots := 0, locals := 0 } : Room) (va_Pc ([.int x, .int n, va_rf fv]) (zSP L adK adV fv)) (vp_Si (fun r => r = x)) 0 0 (fun _ => False) := by
  refine Met.ofW (cc := cJ3_checkIndex_8e157) (maxL := 3) (ret := (some .int)) (by decide +kernel) rfl ?_
  intro p e s m args below meth c s₁ B hml hv
  obtain ⟨rfl, hSP⟩ := hv
  have hE := hSP.1
  have hx := B.exec
  have hb := B.bytes
  have hr := B.returns
  have hts0 := atoms_spec (ws := Cond.code yJ3_checkIndex_8e157 cJ3_checkIndex_8e157 3 (some .int) :: zTW) B.pre
  have hts : ∀ w ∈ zTW, w.before _ s = true := fun w hw => hts0 w (List.mem_cons_of_mem _ hw)
  have hown : s.vm.findClass RJ3 = some m.cls := findClass_of_methodNamed B.named
  have hlocks := B.notSynchronized
  have hS : va_S (fun q => q ∈ L) s.heap s.heap [] := va_S.rf
  have hfc : (va_rf fv).category = 1 := by cases fv <;> rfl
  have hfl : lg_sl ([.int x, .int n, va_rf fv]) = [.val (.int x), .val (.int n), .val (va_rf fv)] := by cases fv <;> rfl
  have hl := lv_entry ([.int x, .int n, va_rf fv]) (n := 3) (by rw [hfl]; exact Nat.le_refl 3)
  rw [lg_entry_eq]
  generalize (lg_sl ([.int x, .int n, va_rf fv]) ++ List.replicate (3 - (lg_sl ([.int x, .int n, va_rf fv])).length) Slot.unset).toArray = ls at hl ⊢
  have hl : lv_has ls 3 [(0, .int x), (1, .int n), (2, va_rf fv)] := hl
  refine lv_iload_n hx hb zt_J3_checkIndex_8e157_0 rfl (lv_at hl 0 rfl) ?_
  refine lv_if_lt (tgt := 9) hx hb zt_J3_checkIndex_8e157_1 (by decide) (fun h => absurd (Int32.lt_iff_toInt_lt.mp h) (by have e0 : (0 : Int32).toInt = 0 := rfl; omega)) (fun _ => ?_)
  refine lv_iload_n hx hb zt_J3_checkIndex_8e157_4 rfl (lv_at hl 0 rfl) ?_
  refine lv_iload_n hx hb zt_J3_checkIndex_8e157_5 rfl (lv_at hl 1 rfl) ?_
  refine lv_icmp_lt (tgt := 16) hx hb zt_J3_checkIndex_8e157_6 (by decide) (fun _ => ?_) (fun h => absurd (Int32.lt_iff_toInt_lt.mpr h2) h)
  refine lv_iload_n hx hb zt_J3_checkIndex_8e157_16 rfl (lv_at hl 0 rfl) ?_
  exact W.iret hx hb hr (fun t ht hW => ⟨_, rfl, rfl, ht⟩) (fun _ h => absurd h List.not_mem_nil) zt_J3_checkIndex_8e157_17
set_option maxHeartbeats 4000000 in
set_option maxRecDepth 100000 in
theorem zS_check (l : Launch) (L : List Nat) (adK adV : Nat → Nat) (fv : Option Nat) {x n : Int32} (h1 : 0 ≤ x.toInt) (h2 : x.toInt < n.toInt) : Met l yJ0_checkIndex_df160 (Cond.code yJ0_checkIndex_df160 cJ0_checkIndex_df160 2 none :: zTW) ({ frames := 1, cells := 0, slots := 0, locals := 22 } : Room) (va_Pc ([.int x, .int n]) (zSP L adK adV fv)) zSv 0 0 (fun _ => False) := by
  refine Met.ofW (cc := cJ0_checkIndex_df160) (maxL := 2) (ret := none) (by decide +kernel) rfl ?_
  intro p e s m args below meth c s₁ B hml hv
  obtain ⟨rfl, hSP⟩ := hv
  have hE := hSP.1
  have hx := B.exec
  have hb := B.bytes
  have hr := B.returns
  have hts0 := atoms_spec (ws := Cond.code yJ0_checkIndex_df160 cJ0_checkIndex_df160 2 none :: zTW) B.pre
  have hts : ∀ w ∈ zTW, w.before _ s = true := fun w hw => hts0 w (List.mem_cons_of_mem _ hw)
  have hown : s.vm.findClass RJ0 = some m.cls := findClass_of_methodNamed B.named
  have hlocks := B.notSynchronized
  have hS : va_S (fun q => q ∈ L) s.heap s.heap [] := va_S.rf
  have hl := lv_entry ([.int x, .int n]) (n := 2) (Nat.le_of_ble_eq_true rfl)
  rw [lg_entry_eq]
  generalize (lg_sl ([.int x, .int n]) ++ List.replicate (2 - (lg_sl ([.int x, .int n])).length) Slot.unset).toArray = ls at hl ⊢
  have hl : lv_has ls 2 [(0, .int x), (1, .int n)] := hl
  refine lv_iload_n hx hb zt_J0_checkIndex_df160_0 rfl (lv_at hl 0 rfl) ?_
  refine lv_iload_n hx hb zt_J0_checkIndex_df160_1 rfl (lv_at hl 1 rfl) ?_
  refine va_gets hx hb hSP.2.2 hS hown (hts _ zy_1053) (fun _ h => h) zt_J0_checkIndex_df160_2 ?_
  refine pc_i (va_runS (n := 3) (As := [.int x, .int n, va_rf fv]) (rest := []) (bytes := cJ3_checkIndex_8e157) (maxL := 3) (ret := (some .int)) ⟨hx, hb, hml, hown, hts0⟩ (zS_check3 l L adK adV fv h1 h2) ⟨callB_of _ hts0 (z_good zTW_good zw_J3_checkIndex_8e157.1.2.1) rfl rfl rfl (hts _ zw_J3_checkIndex_8e157.1.1) (hts _ zy_1059) ⟨zw_J3_checkIndex_8e157.1.2.2.1.1, zw_J3_checkIndex_8e157.1.2.2.1.2, zw_J3_checkIndex_8e157.1.2.2.2⟩ ⟨by decide, by decide⟩, hts _ zw_J3_checkIndex_8e157.2⟩ ⟨zSP.blind, fun U hU hW => ⟨rfl, hSP.go hS hU hW⟩⟩ rfl rfl hl.1 rfl (lv_room (Nat.le_of_ble_eq_true rfl)) zt_J0_checkIndex_df160_5 ⟨Nat.zero_le _, Nat.zero_le _⟩) (fun r hr0 => ?_)
  refine lv_pop hx hb zt_J0_checkIndex_df160_8 rfl ?_
  exact W.vret hx hb hr (fun t ht hW => ⟨rfl, ht⟩) (fun _ h => absurd h List.not_mem_nil) zt_J0_checkIndex_df160_9
theorem z_nc8 : ∀ k : Fin 256, narrow .char (.int (Int32.ofInt (k.val : Int))) = .int (Int32.ofInt (k.val : Int)) := by decide +kernel
theorem z_nch {x : Int32} (h1 : 0 ≤ x.toInt) (h2 : x.toInt ≤ 255) : narrow .char (.int x) = .int x := by
  have := z_nc8 ⟨x.toInt.toNat, by omega⟩
  simp only at this
  rw [show ((x.toInt.toNat : Nat) : Int) = x.toInt by omega, z_ofi] at this
  exact this
theorem z_dr (k a : Nat) : zdec η (k + 2) (a : Int) = .ref (η.1 a) := by
  unfold zdec zrf
  simp only
  rw [if_neg (by omega), Int.toNat_natCast]
  rfl
section ZSR
variable {kds : List zKD} {cl : List vw_C} {tyf : (Nat → ClassId) → List (ClassId × FieldType)} {l : Launch} {cc : ByteArray} {nL fr lo : Nat} {eff : List (Nat × Nat × Nat)}
end ZSR
end
section
/-! the reference: kinds; what its methods find -/
def zkdm : List zKD := [(1, 1, 2400, [(0, (-128), 127)]), (1, 0, 4, [(0, 0, 600)]), (1, 0, 4, [(0, (-2147483648), 2147483647)]), (1, 0, 4, [(0, (-2147483648), 2147483647)]), (1, 0, 12, [(0, 0, 2)]), (1, 0, 400, [(0, 0, 8), (0, 0, 8), (0, (-1), 99), (0, (-1), 99), (0, 0, 9), (0, 0, 4), (0, 0, 6), (0, 0, 99), (0, (-1), 99), (0, (-1), 99), (0, (-1), 99), (0, 0, 99), (0, (-1), 99), (0, (-1), 99), (0, (-1), 99), (0, 0, 99), (0, (-1), 99), (0, (-1), 99), (0, (-1), 99), (0, (-1), 99), (0, (-1), 99), (0, (-1), 99), (0, (-1), 99), (0, (-1), 99), (0, (-1), 99), (0, (-1), 99), (0, (-1), 99), (0, (-1), 99), (0, (-1), 99), (0, (-1), 99), (0, (-1), 99), (0, 0, 63), (0, (-1), 99), (0, 0, 2), (0, 0, 63), (0, (-1), 99), (0, 0, 2), (0, 0, 63), (0, (-1), 99), (0, 0, 2), (0, 0, 63), (0, (-1), 99), (0, 0, 2), (0, 0, 63), (0, (-1), 99), (0, 0, 2), (0, 0, 63), (0, (-1), 99), (0, 0, 2), (0, (-1), 99)]), (1, 0, 968, [(0, 0, 30), (0, (-1), 99), (0, (-1), 99), (0, (-1), 99), (0, (-1), 99), (0, (-1), 99), (0, (-1), 99), (0, (-1), 99), (0, (-1), 99), (0, (-1), 99), (0, (-1), 99), (0, (-1), 99), (0, (-1), 99), (0, (-1), 99), (0, (-1), 99), (0, (-1), 99), (0, (-1), 99), (0, (-1), 99), (0, (-1), 99), (0, (-1), 99), (0, (-1), 99), (0, (-1), 99), (0, (-1), 99), (0, (-1), 99), (0, (-1), 99), (0, (-1), 99), (0, (-1), 99), (0, (-1), 99), (0, (-1), 99), (0, (-1), 99), (0, (-1), 99), (0, (-1), 99), (0, (-1), 99), (0, (-1), 99), (0, (-1), 99), (0, (-1), 99), (0, (-1), 99), (0, (-1), 99), (0, (-1), 99), (0, (-1), 99), (0, (-1), 99), (0, (-1), 99), (0, (-1), 99), (0, (-1), 99), (0, (-1), 99), (0, (-1), 99), (0, (-1), 99), (0, (-1), 99), (0, (-1), 99), (0, (-1), 99), (0, (-1), 99), (0, (-1), 99), (0, (-1), 99), (0, (-1), 99), (0, (-1), 99), (0, (-1), 99), (0, (-1), 99), (0, (-1), 99), (0, (-1), 99), (0, (-1), 99), (0, (-1), 99), (0, (-1), 99), (0, (-1), 99), (0, (-1), 99), (0, (-1), 99), (0, (-1), 99), (0, (-1), 99), (0, (-1), 99), (0, (-1), 99), (0, (-1), 99), (0, (-1), 99), (0, (-1), 99), (0, (-1), 99), (0, (-1), 99), (0, (-1), 99), (0, (-1), 99), (0, (-1), 99), (0, (-1), 99), (0, (-1), 99), (0, (-1), 99), (0, (-1), 99), (0, (-1), 99), (0, (-1), 99), (0, (-1), 99), (0, (-1), 99), (0, (-1), 99), (0, (-1), 99), (0, (-1), 99), (0, (-1), 99), (0, (-1), 99), (0, (-1), 99), (0, (-1), 99), (0, (-1), 99), (0, (-1), 99), (0, (-1), 99), (0, (-1), 99), (0, (-1), 99), (0, (-1), 99), (0, (-1), 99), (0, (-1), 99), (0, (-1), 99), (0, (-1), 99), (0, (-1), 99), (0, (-1), 99), (0, (-1), 99), (0, (-1), 99), (0, (-1), 99), (0, (-1), 99), (0, (-1), 99), (0, (-1), 99), (0, (-1), 99), (0, (-1), 99), (0, (-1), 99), (0, (-1), 99), (0, (-1), 99), (0, (-1), 99), (0, (-1), 99), (0, (-1), 99), (0, (-1), 99), (0, (-1), 99), (0, (-1), 99)]), (1, 0, 416, [(0, 0, 9), (0, 0, 16), (0, (-1), 99), (0, (-1), 99), (0, (-1), 99), (0, (-1), 99), (0, (-1), 99), (0, (-1), 99), (0, (-1), 99), (0, (-1), 99), (0, (-1), 99), (0, (-1), 99), (0, (-1), 99), (0, (-1), 99), (0, (-1), 99), (0, (-1), 99), (0, (-1), 99), (0, (-1), 99), (0, (-1), 99), (0, (-1), 99), (0, 0, 8), (0, 0, 8), (0, 0, 8), (0, 0, 8), (0, 0, 8), (0, 0, 8), (0, 0, 8), (0, 0, 8), (0, 0, 8), (0, 0, 8), (0, 0, 8), (0, 0, 8), (0, 0, 8), (0, 0, 8), (0, 0, 8), (0, 0, 8), (0, 0, 8), (0, 0, 8), (0, 0, 8), (0, 0, 8), (0, 0, 8), (0, 0, 8), (0, 0, 8), (0, 0, 8), (0, 0, 8), (0, 0, 8), (0, 0, 8), (0, 0, 8), (0, 0, 8), (0, 0, 8), (0, 0, 8), (0, 0, 8)]), (1, 0, 121, [(0, (-1), 99)]), (1, 0, 5, [(0, (-1), 99)]), (1, 0, 6, [(0, 0, 63)]), (1, 0, 6, [(0, (-2147483648), 2147483647)]), (1, 0, 6, [(0, (-2147483648), 2147483647)]), (1, 0, 6, [(0, (-2147483648), 2147483647)]), (1, 0, 6, [(0, (-2147483648), 2147483647)]), (1, 0, 6, [(0, (-2147483648), 2147483647)]), (1, 0, 6, [(0, (-2147483648), 2147483647)]), (1, 0, 6, [(0, (-2147483648), 2147483647)]), (1, 0, 6, [(0, (-2147483648), 2147483647)]), (1, 0, 6, [(0, 0, 99)]), (1, 0, 6, [(0, (-1), 5)]), (1, 0, 30, [(0, (-2147483648), 2147483647)]), (1, 0, 30, [(0, (-2147483648), 2147483647)]), (1, 0, 30, [(0, (-2147483648), 2147483647)]), (1, 0, 30, [(0, (-2147483648), 2147483647)]), (1, 0, 30, [(0, (-2147483648), 2147483647)]), (1, 0, 30, [(0, (-2147483648), 2147483647)]), (1, 2, 1984, [(0, 0, 1)]), (1, 2, 1984, [(0, 0, 1)]), (1, 0, 9, [(0, 0, 511)]), (1, 0, 512, [(0, (-2147483648), 2147483647)]), (1, 0, 9, [(0, (-2147483648), 2147483647)]), (1, 0, 9, [(0, (-2147483648), 2147483647)]), (1, 0, 9, [(0, 0, 8)]), (1, 2, 3, [(0, 0, 1)]), (0, 12, 64, [(0, (-2147483648), 2147483647), (2, 0, 2147483647), (3, 0, 2147483647), (4, 0, 2147483647), (5, 0, 2147483647), (6, 0, 2147483647), (7, 0, 2147483647), (8, 0, 2147483647), (9, 0, 2147483647), (0, 0, 600), (0, 0, 600), (0, 0, 600), (0, 0, 4), (0, 0, 99), (1, (-9223372036854775808), 9223372036854775807), (0, (-2147483648), 2147483647), (0, 0, 4), (0, (-2147483648), 2147483647), (10, 0, 2147483647), (11, 0, 2147483647), (0, (-1), 99), (0, (-1), 99), (0, 0, 1), (0, 0, 1), (0, 0, 8), (0, 0, 8), (0, (-2147483648), 2147483647), (0, (-2147483648), 2147483647), (0, 0, 6), (0, 0, 4), (12, 0, 2147483647), (13, 0, 2147483647), (14, 0, 2147483647), (0, (-2147483648), 2147483647), (0, 0, 30), (0, 0, 6), (15, 0, 2147483647), (16, 0, 2147483647), (17, 0, 2147483647), (22, 0, 2147483647), (21, 0, 2147483647), (18, 0, 2147483647), (19, 0, 2147483647), (20, 0, 2147483647), (23, 0, 2147483647), (24, 0, 2147483647), (25, 0, 2147483647), (26, 0, 2147483647), (27, 0, 2147483647), (0, (-2147483648), 2147483647), (0, (-2147483648), 2147483647), (0, (-2147483648), 2147483647), (29, 0, 2147483647), (30, 0, 2147483647), (28, 0, 2147483647), (0, 0, 1), (0, 0, 9), (0, 0, 16), (31, 0, 2147483647), (32, 0, 2147483647), (33, 0, 2147483647), (34, 0, 2147483647), (35, 0, 2147483647), (36, 0, 2147483647)])]
theorem zkdm_35 : zkdm[35]? = some (0, 12, 64, [(0, (-2147483648), 2147483647), (2, 0, 2147483647), (3, 0, 2147483647), (4, 0, 2147483647), (5, 0, 2147483647), (6, 0, 2147483647), (7, 0, 2147483647), (8, 0, 2147483647), (9, 0, 2147483647), (0, 0, 600), (0, 0, 600), (0, 0, 600), (0, 0, 4), (0, 0, 99), (1, (-9223372036854775808), 9223372036854775807), (0, (-2147483648), 2147483647), (0, 0, 4), (0, (-2147483648), 2147483647), (10, 0, 2147483647), (11, 0, 2147483647), (0, (-1), 99), (0, (-1), 99), (0, 0, 1), (0, 0, 1), (0, 0, 8), (0, 0, 8), (0, (-2147483648), 2147483647), (0, (-2147483648), 2147483647), (0, 0, 6), (0, 0, 4), (12, 0, 2147483647), (13, 0, 2147483647), (14, 0, 2147483647), (0, (-2147483648), 2147483647), (0, 0, 30), (0, 0, 6), (15, 0, 2147483647), (16, 0, 2147483647), (17, 0, 2147483647), (22, 0, 2147483647), (21, 0, 2147483647), (18, 0, 2147483647), (19, 0, 2147483647), (20, 0, 2147483647), (23, 0, 2147483647), (24, 0, 2147483647), (25, 0, 2147483647), (26, 0, 2147483647), (27, 0, 2147483647), (0, (-2147483648), 2147483647), (0, (-2147483648), 2147483647), (0, (-2147483648), 2147483647), (29, 0, 2147483647), (30, 0, 2147483647), (28, 0, 2147483647), (0, 0, 1), (0, 0, 9), (0, 0, 16), (31, 0, 2147483647), (32, 0, 2147483647), (33, 0, 2147483647), (34, 0, 2147483647), (35, 0, 2147483647), (36, 0, 2147483647)]) := rfl
theorem zx_12 : ∀ w ∈ u_ws RX12 TX12 64, w ∈ zTW := zTpl _ [1363, 1365, 1367, 1369, 1371, 1373, 1375, 1377, 1379, 1381, 1383, 1385, 1387, 1389, 1391, 1393, 1395, 1397, 1399, 1401, 1403, 1405, 1407, 1409, 1411, 1413, 1415, 1417, 1419, 1421, 1423, 1425, 1427, 1429, 1431, 1433, 1435, 1437, 1439, 1441, 1443, 1445, 1447, 1449, 1451, 1453, 1455, 1457, 1459, 1461, 1463, 1465, 1467, 1469, 1471, 1473, 1475, 1477, 1479, 1481, 1483, 1485, 1487, 1489] (by decide +kernel) (by decide +kernel)
def zKPr : zKPt := fun _ D cy _ _ U => KW D cy U
theorem zkpr_ok : zKPok vwCl tyW zKPr := by
  refine ⟨fun _ D cy L Θ U h => ⟨h.1, rfl, rfl, rfl, fun t h1 h2 => ?_⟩, fun _ D cy L Θ s U h hW _ _ => h.warm hW, fun _ D cy L Θ U g mk a h => h.call⟩
  rcases (show t = 3 ∨ t = 4 ∨ t = 5 ∨ t = 6 by omega) with rfl | rfl | rfl | rfl
  · exact ⟨_, rfl⟩
  · exact ⟨_, rfl⟩
  · exact ⟨_, rfl⟩
  · exact ⟨_, rfl⟩
end
section
variable {η : zRn}
/-! walks by hand over the same heap: a row an instruction -/
/-- the machine, the code, the words, the classes -/
def hCx (D : va_G) (cl : List vw_C) (cy : Nat → ClassId) (L : List Nat) (p : Program) (s : State) (m : MethodId) (args : Array Value) (c : Code) (cc : ByteArray) (nL : Nat) (tys : List (ClassId × FieldType)) (Ts : List Cond) (own : String) : Prop :=
  p.tables.exec = Jvm.exec ∧ c.code = cc ∧ c.maxLocals = nL ∧ (∀ w ∈ Ts, w.before args s = true) ∧ s.vm.findClass own = some m.cls ∧ va_K D cl tys s ∧ zTy cy tys ∧ L.Nodup
section HWK
variable {kds : List zKD} {D : va_G} {cl : List vw_C} {cy : Nat → ClassId} {L : List Nat} {Θ : Nat → Option Nat} {h : Nat → Nat → Int} {H H0 : Heap} {locs : List Loc}
variable {p : Program} {l : Launch} {e : Env} {R : Room} {s : State} {m : MethodId} {args : Array Value} {below : List Frame} {meth : Method} {c : Code} {Q : State → Prop}
variable {cc : ByteArray} {pc nL : Nat} {tys : List (ClassId × FieldType)} {Ts : List Cond} {own : String} {ls : Array Slot} {rest : List Value}
theorem hw_get (X : hCx D cl cy L p s m args c cc nL tys Ts own) {idx ci k kk : Nat} {o : Option FieldType} {a : Nat} {K : zKD} (hF : zFok own Ts cl (idx, ci, k, o)) (hΘ : Θ a = some kk) (hK : kds[kk]? = some K) (hKf : K.1 = 0 ∧ K.2.1 = ci) (hk : k < K.2.2.1) (hH : zH η kds D cl cy L Θ h H) (hdg : decode cc pc = .ok (.getfield idx, 3))
    (w : W p l e R s m args below meth c H locs 0 0 Q (F0 m (pc + 3) ls (zdec η (zty K k).1 (h a k) :: rest))) : W p l e R s m args below meth c H locs 0 0 Q (F0 m pc ls (.ref (η.1 a) :: rest)) := by
  obtain ⟨hexec, hb, hml, hts, hown, hKa, hT, hnd⟩ := X
  obtain ⟨C, T, N, e1, e2, e3, e4, -⟩ := hF
  obtain ⟨q0, hq⟩ := zH_get hH hΘ hK (by omega)
  rw [zE_o hKf.1, hKf.2] at hq
  exact va_get (v := zdec η (zty K k).1 (h a k)) hexec hb hts e2 hown hKa hH.1 q0 hq e1 k e3 (hts _ e4) (fun _ x => x) (z_fs hk) hdg w
theorem hw_put (X : hCx D cl cy L p s m args c cc nL tys Ts own) {idx ci k kk : Nat} {ty : FieldType} {a : Nat} {K : zKD} {x : Int} (hF : zFok own Ts cl (idx, ci, k, some ty)) (hΘ : Θ a = some kk) (hK : kds[kk]? = some K) (hKf : K.1 = 0 ∧ K.2.1 = ci) (hk : k < K.2.2.1) (hft : zfty ty (zty K k) = true) (hx : zok Θ (zty K k).1 x ∧ (zty K k).2.1 ≤ x ∧ x ≤ (zty K k).2.2) (hH : zH η kds D cl cy L Θ h H) (hS : va_S (fun q => q ∈ L) H0 H locs) (hdg : decode cc pc = .ok (.putfield idx, 3))
    (w : ∀ (H1 : Heap) (locs1 : List Loc), zH η kds D cl cy L Θ (zup h a k x) H1 → va_S (fun q => q ∈ L) H0 H1 locs1 → W p l e R s m args below meth c H1 locs1 0 0 Q (F0 m (pc + 3) ls rest)) : W p l e R s m args below meth c H locs 0 0 Q (F0 m pc ls (zdec η (zty K k).1 x :: .ref (η.1 a) :: rest)) := by
  obtain ⟨hexec, hb, hml, hts, hown, hKa, hT, hnd⟩ := X
  obtain ⟨C, T, N, e1, e2, e3, e4, e5⟩ := hF
  obtain ⟨f1, ty0, f2, f3, f4⟩ := e5 ty rfl
  have hD : va_D (fun q => q ∈ L) ([] ++ va_pl L (zF η kds cy Θ h)) := z_D hnd (fun a ha => ha)
  obtain ⟨q0, hq⟩ := zH_get hH hΘ hK (by omega)
  have hq' := hq
  rw [zE_o hKf.1, hKf.2] at hq
  simp only at f4
  obtain ⟨c1, c2⟩ := z_fty hft hx.1 hx.2.1 hx.2.2
  rw [← f4] at c1 c2
  refine va_put hexec hb hts e2 ty0 f2 f3 hown hKa hH.1 hD hS q0 hq e1 k e3 (hts _ e4) (fun _ x => x) f1 (f2 k e3) c1 c2 (by simpa using hk) hdg (fun H1 locs1 hP1 hD1 hS1 => ?_)
  refine w H1 locs1 ?_ hS1
  refine zH_put hH hD hΘ hK (by omega) hk hx hq' ?_
  rw [zE_o hKf.1, hKf.2, ← z_fset]
  exact hP1
theorem hw_iald (X : hCx D cl cy L p s m args c cc nL tys Ts own) {kk : Nat} {a : Nat} {K : zKD} {i : Int32} (hΘ : Θ a = some kk) (hK : kds[kk]? = some K) (hKf : K.1 = 1 ∧ K.2.1 = 0) (hi : 0 ≤ i.toInt ∧ i.toInt < (K.2.2.1 : Int)) (hH : zH η kds D cl cy L Θ h H) (hdg : decode cc pc = .ok (.iaload, 1))
    (w : W p l e R s m args below meth c H locs 0 0 Q (F0 m (pc + 1) ls (.int (Int32.ofInt (h a i.toInt.toNat)) :: rest))) : W p l e R s m args below meth c H locs 0 0 Q (F0 m pc ls (.int i :: .ref (η.1 a) :: rest)) := by
  obtain ⟨hexec, hb, hml, hts, hown, hKa, hT, hnd⟩ := X
  obtain ⟨q0, hq⟩ := zH_get hH hΘ hK (by omega)
  rw [zE_i hKf.1, hKf.2] at hq
  obtain ⟨v1, v2⟩ := z_vin (i := i) (n := K.2.2.1) hi.1 hi.2
  refine va_iald hexec hb hKa hH.1 q0 0 hq hT.1 v1 hdg ?_
  rw [v2]
  exact w
theorem hw_bald (X : hCx D cl cy L p s m args c cc nL tys Ts own) {kk : Nat} {a : Nat} {K : zKD} {i : Int32} (hΘ : Θ a = some kk) (hK : kds[kk]? = some K) (hKf : K.1 = 1 ∧ (K.2.1 = 1 ∨ K.2.1 = 2)) (hi : 0 ≤ i.toInt ∧ i.toInt < (K.2.2.1 : Int)) (hH : zH η kds D cl cy L Θ h H) (hdg : decode cc pc = .ok (.baload, 1))
    (w : W p l e R s m args below meth c H locs 0 0 Q (F0 m (pc + 1) ls (.int (Int32.ofInt (h a i.toInt.toNat)) :: rest))) : W p l e R s m args below meth c H locs 0 0 Q (F0 m pc ls (.int i :: .ref (η.1 a) :: rest)) := by
  obtain ⟨hexec, hb, hml, hts, hown, hKa, hT, hnd⟩ := X
  obtain ⟨q0, hq⟩ := zH_get hH hΘ hK (by omega)
  rw [zE_i hKf.1] at hq
  obtain ⟨v1, v2⟩ := z_vin (i := i) (n := K.2.2.1) hi.1 hi.2
  rcases hKf.2 with e0 | e0
  · rw [e0] at hq
    refine va_bald hexec hb hKa hH.1 q0 1 hq hT.2.1 v1 hdg ?_
    rw [v2]
    exact w
  · rw [e0] at hq
    refine va_zald hexec hb hKa hH.1 q0 2 hq hT.2.2.1 v1 hdg ?_
    rw [v2]
    exact w
theorem hw_iast (X : hCx D cl cy L p s m args c cc nL tys Ts own) {kk : Nat} {a : Nat} {K : zKD} {i x : Int32} (hΘ : Θ a = some kk) (hK : kds[kk]? = some K) (hKf : K.1 = 1 ∧ K.2.1 = 0) (hi : 0 ≤ i.toInt ∧ i.toInt < (K.2.2.1 : Int)) (hx : zok Θ (zty K i.toInt.toNat).1 x.toInt ∧ (zty K i.toInt.toNat).2.1 ≤ x.toInt ∧ x.toInt ≤ (zty K i.toInt.toNat).2.2) (hH : zH η kds D cl cy L Θ h H) (hS : va_S (fun q => q ∈ L) H0 H locs) (hdg : decode cc pc = .ok (.iastore, 1))
    (w : ∀ (H1 : Heap) (locs1 : List Loc), zH η kds D cl cy L Θ (zup h a i.toInt.toNat x.toInt) H1 → va_S (fun q => q ∈ L) H0 H1 locs1 → W p l e R s m args below meth c H1 locs1 0 0 Q (F0 m (pc + 1) ls rest)) : W p l e R s m args below meth c H locs 0 0 Q (F0 m pc ls (.int x :: .int i :: .ref (η.1 a) :: rest)) := by
  obtain ⟨hexec, hb, hml, hts, hown, hKa, hT, hnd⟩ := X
  obtain ⟨q0, hq⟩ := zH_get hH hΘ hK (by omega)
  have hq1 := hq
  rw [zE_i hKf.1, hKf.2] at hq1
  obtain ⟨v1, v2⟩ := z_vin (i := i) (n := K.2.2.1) hi.1 hi.2
  have hD : va_D (fun q => q ∈ L) ([] ++ va_pl L (zF η kds cy Θ h)) := z_D hnd (fun a ha => ha)
  refine va_iast hexec hb hKa hH.1 hD hS q0 0 hq1 hT.1 v1 hdg (fun H1 locs1 hP1 _ hS1 => ?_)
  refine w H1 locs1 ?_ hS1
  refine zH_put hH hD hΘ hK (by omega) (by omega) hx hq ?_
  rw [zE_i hKf.1, hKf.2]
  have ef : (fun j => Int32.ofInt (zup h a i.toInt.toNat x.toInt a j)) = upd (fun j => Int32.ofInt (h a j)) i.toInt.toNat x := by
    funext j
    unfold upd
    split
    · rename_i e
      subst e
      rw [zup_at, z_ofi]
    · rename_i e
      rw [zup_ne (fun q => e q.2)]
  rw [ef, ← v2]
  exact hP1
end HWK
/-! a method some of whose marked places are walked by hand -/
def zHn (kds : List zKD) (cl : List vw_C) (TW : List Cond) (KP : zKPt) (tyf : (Nat → ClassId) → List (ClassId × FieldType)) (l : Launch) (own : String) (cc : ByteArray) (nL fr lo : Nat) (eff : List (Nat × Nat × Nat)) (ann : List (Nat × zAS × zRK)) (n0 : Nat) (t : Nat × zAS × zRK) : Prop :=
  ∀ (η : zRn) (D : va_G) (cy : Nat → ClassId) (L : List Nat) (Θ : Nat → Option Nat) (h0 : Nat → Nat → Int) (p : Program) (e : Env) (R : Room) (s : State) (m : MethodId) (args : Array Value) (below : List Frame) (meth : Method) (c : Code) (Q : State → Prop) (σ0 : List Int),
    p.tables.exec = Jvm.exec → c.code = cc → c.maxLocals = nL → s.vm.findClass own = some m.cls → (∀ w ∈ TW, w.before args s = true) → KP η D cy L Θ s → va_K D cl (tyf cy) s → zTy cy (tyf cy) → L.Nodup → R.frames = fr → R.locals = lo → σ0.length = n0 →
    ∀ (σ' : List Int) (h' : Nat → Nat → Int) (H : Heap) (locs : List Loc) (ls : Array Slot), (∃ κ, σ' = σ0 ++ κ) → zG η kds D cl cy L Θ h0 eff (fun x => x ∈ L) s.heap nL t.2.1 σ' h' H locs ls →
      (∀ t2 ∈ ann, ∀ (σ2 : List Int) (h2 : Nat → Nat → Int) (H2 : Heap) (locs2 : List Loc) (ls2 : Array Slot), (∃ κ, σ2 = σ0 ++ κ) → zG η kds D cl cy L Θ h0 eff (fun x => x ∈ L) s.heap nL t2.2.1 σ2 h2 H2 locs2 ls2 → zrk σ2 t2.2.2 < zrk σ' t.2.2 → W p l e R s m args below meth c H2 locs2 0 0 Q (F0 m t2.1 ls2 (t2.2.1.2.2.1.map (zvo η σ2)))) →
      W p l e R s m args below meth c H locs 0 0 Q (F0 m t.1 ls (t.2.1.2.2.1.map (zvo η σ')))
def zmeth3 (kds : List zKD) (C : zCT) (M : zMD) (fuel : Nat) (B : Int) (gv : List Nat) : Bool :=
  zchk kds C.1.2.2.1 C.2.2.2.2 C.1.2.2.2 C.2.2.2.1 C.2.2.1.2.1.length M (B, []) fuel 0 (C.2.2.1.2.1, C.2.2.1.2.2.1, [], C.2.2.1.2.2.2.2.1, C.2.2.1.2.2.2.2.2) &&
  M.2.2.2.2.2.1.all (fun t => zpos t.2.1.1 t.2.2 && t.2.2.2.all (fun q => decide (q.1 < t.2.1.1.length)) && (gv.contains t.1 || zexs kds C.1.2.2.1 C.2.2.2.2 C.1.2.2.2 C.2.2.2.1 C.2.2.1.2.1.length M (zchk kds C.1.2.2.1 C.2.2.2.2 C.1.2.2.2 C.2.2.2.1 C.2.2.1.2.1.length M t.2.2 fuel) t.1 t.2.1))
theorem z_met3 {kds : List zKD} {cl : List vw_C} {TW : List Cond} {KP : zKPt} {tyf : (Nat → ClassId) → List (ClassId × FieldType)} {l : Launch} (hKP : zKPok cl tyf KP) (hg : zgoodW TW) (C : zCT) (M : zMD) (fuel : Nat) (B : Int) (gv : List Nat) (hy : plainName C.1.1.cls = true) (hloc : C.2.2.1.2.2.1 = zargs 0 C.2.2.1.1) (hw : zwid C.2.2.1.1 ≤ C.1.2.2.1) (hchk : zmeth3 kds C M fuel B gv = true)
    (hcode : ∀ q ∈ M.1, decode C.1.2.1 q.1 = .ok (q.2.1, q.2.2)) (hfl : ∀ q ∈ M.2.1, zFok C.1.1.cls TW cl q) (hcs : (∀ q ∈ M.2.2.1.1, Cond.constant C.1.1.cls q.1 (Int32.ofInt q.2) ∈ TW) ∧ ∀ q ∈ M.2.2.1.2, Cond.constantLong C.1.1.cls q.1 (Int64.ofInt q.2) ∈ TW)
    (hca : ∀ q ∈ M.2.2.2.1, ∀ C' ∈ q.2, zMet kds cl TW KP l C' ∧ (zCV kds cl TW C.1.1.cls C.1.2.1 C.2.1.1 C.2.1.2 q.1 C' ∨ zCS TW C.1.1.cls C.1.2.1 C.2.1.1 C.2.1.2 q.1 C')) (hsp : ∀ q ∈ M.2.2.2.2.1, zSpok kds cl TW KP tyf l C.1.1.cls C.1.2.1 C.1.2.2.1 C.2.1.1 C.2.1.2 C.2.2.2.2 q) 
    (hgv : ∀ t ∈ M.2.2.2.2.2.1, gv.contains t.1 = true → zHn kds cl TW KP tyf l C.1.1.cls C.1.2.1 C.1.2.2.1 C.2.1.1 C.2.1.2 C.2.2.2.2 M.2.2.2.2.2.1 C.2.2.1.2.1.length t) : zMet kds cl TW KP l C := by
  intro η D cy L Θ h σ hnd hE hA hV hR
  refine Met.ofW (cc := C.1.2.1) (maxL := C.1.2.2.1) (ret := C.1.2.2.2) hy rfl ?_
  intro p e s m args below meth c s₁ B' hml hv
  obtain ⟨rfl, hH, hK⟩ := hv
  have hts := atoms_spec (ws := Cond.code C.1.1 C.1.2.1 C.1.2.2.1 C.1.2.2.2 :: TW) B'.pre
  have hown : s.vm.findClass C.1.1.cls = some m.cls := findClass_of_methodNamed B'.named
  obtain ⟨hKa, hTy⟩ := hKP.1 _ _ _ _ _ _ hK
  have hmono : ∀ w ∈ TW, w ∈ Cond.code C.1.1 C.1.2.1 C.1.2.2.1 C.1.2.2.2 :: TW := fun w hw => List.mem_cons_of_mem _ hw
  unfold zmeth3 at hchk
  rw [Bool.and_eq_true] at hchk
  rw [← hE.1] at hchk
  generalize hQ : MQ below (zQ η kds D cl cy L Θ h σ C.2.2.2.1 C.2.2.2.2) (List.map (zvo η σ) C.2.2.1.1).toArray s 0 0 (fun q => q ∈ L) = Qc
  have X : zCx η kds D cl cy L Θ h C.2.2.2.2 (fun q => q ∈ L) C.1.2.2.1 p l e (headSpec (Cond.code C.1.1 C.1.2.1 C.1.2.2.1 C.1.2.2.2 :: TW) ({ frames := C.2.1.1, cells := 0, slots := 0, locals := C.2.1.2 } : Room)).room s m (List.map (zvo η σ) C.2.2.1.1).toArray below meth c C.1.2.1 σ (tyf cy) (Cond.code C.1.1 C.1.2.1 C.1.2.2.1 C.1.2.2.2 :: TW) C.1.1.cls M C.1.2.2.2 C.2.2.2.1 := by
    refine ⟨⟨B'.exec, B'.bytes, hts, hown, hKa, hTy, hnd, fun a ha => ha⟩, ⟨fun q hq => zFok_mono hmono (hfl q hq), ⟨fun q hq => hmono _ (hcs.1 q hq), fun q hq => hmono _ (hcs.2 q hq)⟩, hcode⟩, ⟨fun q hq C' hC' => ?_, fun q hq Q' σA as as' hf k => ?_⟩, B'.returns, B'.notSynchronized, fun q hq => hq⟩
    · obtain ⟨hM, hc | hc⟩ := hca q hq C' hC'
      · exact z_runV hKP hg rfl hM hnd ⟨B'.exec, B'.bytes, hml, hown, hts⟩ hK hc
      · exact z_runS hKP hg rfl hM hnd ⟨B'.exec, B'.bytes, hml, hown, hts⟩ hK hc
    · exact hsp q hq η D cy L Θ h p e _ s m _ below meth c Q' σA as as' B'.exec B'.bytes hml hown (fun w hw => hts w (hmono w hw)) hK hKa hTy hnd rfl rfl hf k
  have key : ∀ n : Nat, ∀ t ∈ M.2.2.2.2.2.1, ∀ (σ' : List Int) (h' : Nat → Nat → Int) (H : Heap) (locs : List Loc) (ls : Array Slot), (∃ κ, σ' = σ ++ κ) → zG η kds D cl cy L Θ h C.2.2.2.2 (fun q => q ∈ L) s.heap C.1.2.2.1 t.2.1 σ' h' H locs ls → zrk σ' t.2.2 < (n : Int) →
      W p l e (headSpec (Cond.code C.1.1 C.1.2.1 C.1.2.2.1 C.1.2.2.2 :: TW) ({ frames := C.2.1.1, cells := 0, slots := 0, locals := C.2.1.2 } : Room)).room s m (List.map (zvo η σ) C.2.2.1.1).toArray below meth c H locs 0 0 Qc (F0 m t.1 ls (t.2.1.2.2.1.map (zvo η σ'))) := by
    intro n
    induction n with
    | zero =>
      intro t ht σ' h' H locs ls hp g hlt
      have := List.all_eq_true.mp hchk.2 t ht
      simp only [Bool.and_eq_true] at this
      have := z_pos g.1 this.1.1
      omega
    | succ n ih =>
      intro t ht σ' h' H locs ls hp g hlt
      have hc := List.all_eq_true.mp hchk.2 t ht
      simp only [Bool.and_eq_true] at hc
      by_cases hg9 : gv.contains t.1 = true
      · exact hgv t ht hg9 η D cy L Θ h p e _ s m _ below meth c Qc σ B'.exec B'.bytes hml hown (fun w hw => hts w (hmono w hw)) hK hKa hTy hnd rfl rfl hE.1 σ' h' H locs ls hp g (fun t2 ht2 σ2 h2 H2 locs2 ls2 hp2 g2 hl2 => ih t2 ht2 σ2 h2 H2 locs2 ls2 hp2 g2 (by omega))
      have hc2 := hc.2
      rw [Bool.or_eq_true] at hc2
      have hc3 := hc2.resolve_left hg9
      have hsy : ∀ q ∈ t.2.2.2, q.1 < σ'.length := fun q hq => by
        rw [g.1.1]
        exact of_decide_eq_true (List.all_eq_true.mp hc.1.2 q hq)
      have w := z_exs (σA := σ') hQ.symm X (fun pc as hh => z_chk hQ.symm X hp hsy (fun t2 ht2 σ2 h2 H2 locs2 ls2 hp2 g2 hl2 => ih t2 ht2 σ2 h2 H2 locs2 ls2 hp2 g2 (by omega)) hh) hp hc3
      have := w [] h' H locs ls (by rw [List.append_nil]; exact g)
      rw [List.append_nil] at this
      exact this
  have hl := lv_entry (List.map (zvo η σ) C.2.2.1.1) (n := C.1.2.2.1) (by rw [z_wid]; exact hw)
  rw [lg_entry_eq]
  generalize (lg_sl (List.map (zvo η σ) C.2.2.1.1) ++ List.replicate (C.1.2.2.1 - (lg_sl (List.map (zvo η σ) C.2.2.1.1)).length) Slot.unset).toArray = ls at hl ⊢
  rw [z_args, ← hloc] at hl
  have hgl : ∀ q ∈ C.2.2.1.2.2.1, zga Θ σ q.2 := by
    rw [hloc]
    have : ∀ {ea : List zAV} {i : Nat}, (∀ a ∈ ea, zga Θ σ a) → ∀ q ∈ zargs i ea, zga Θ σ q.2 := by
      intro ea
      induction ea with
      | nil => intro i _ q hq; cases hq
      | cons a r ih =>
        intro i ha q hq
        simp only [zargs] at hq
        rcases List.mem_cons.mp hq with rfl | hq
        · exact ha a List.mem_cons_self
        · exact ih (fun b hb => ha b (List.mem_cons_of_mem _ hb)) q hq
    exact this hA
  have w := z_chk (σA := σ) hQ.symm X ⟨[], (List.append_nil σ).symm⟩ (rk := (B, [])) (fun q hq => by cases hq) (fun t2 ht2 σ2 h2 H2 locs2 ls2 hp2 g2 hl2 => key B.toNat t2 ht2 σ2 h2 H2 locs2 ls2 hp2 g2 (by
    have e1 : zrk σ (B, []) = B := by unfold zrk; simp [zsum]
    rw [e1] at hl2
    omega)) hchk.1
  have := w [] h s.heap [] ls (by
    rw [List.append_nil]
    exact ⟨hE, hgl, hl, fun _ hq => (by cases hq), hV, hR, hH, va_S.rf, fun _ _ _ _ _ => rfl⟩)
  exact this
end
section
variable {η : zRn}
/-! walks over numbers: what a stretch of code does to locals, stack and cells, as a predicate of the numbers. A value is a tag and a number: 0 int, 1 long, k + 2 a cell of kind k or null (-1), k + 100002 a cell of kind k -/
abbrev yV : Type := Nat × Int
abbrev yL : Type := List (Nat × yV)
abbrev yH : Type := Nat → Nat → Int
abbrev yP : Type := yL → List yV → yH → Prop
abbrev yQt : Type := yV → yH → Prop
abbrev yB : Type := (Nat → Option Nat) → List Int → yH → yQt → Prop
def yvo (η : zRn) (a : yV) : Value := zdec η a.1 a.2
def yok (Θ : Nat → Option Nat) (a : yV) : Prop := @ite Prop (a.1 < 100002) (Classical.propDecidable _) (zok Θ a.1 a.2) (0 ≤ a.2 ∧ Θ a.2.toNat = some (a.1 - 100002))
def yfind : yL → Nat → Option yV
  | [], _ => none
  | (j, a) :: r, i => if j = i then some a else yfind r i
def ydel : yL → Nat → yL
  | [], _ => []
  | (j, a) :: r, i => if j = i then ydel r i else if j + 1 = i ∧ a.1 = 1 then ydel r i else (j, a) :: ydel r i
def yput (loc : yL) (i : Nat) (a : yV) : yL := (i, a) :: ydel loc i
/-- values as they come from a slot of a kind: the tag of a slot that is never null -/
def ytag (t : Nat × Int × Int) : Nat := if 2 ≤ t.1 ∧ 0 ≤ t.2.1 then t.1 + 100000 else t.1
def yG (η : zRn) (kds : List zKD) (D : va_G) (cl : List vw_C) (cy : Nat → ClassId) (L : List Nat) (Θ : Nat → Option Nat) (H0 : Heap) (nL : Nat) (loc : yL) (st : List yV) (h : yH) (H : Heap) (locs : List Loc) (ls : Array Slot) : Prop :=
  (∀ q ∈ loc, yok Θ q.2) ∧ lv_has ls nL (loc.map fun q => (q.1, yvo η q.2)) ∧ (∀ a ∈ st, yok Θ a) ∧ zH η kds D cl cy L Θ h H ∧ va_S (fun q => q ∈ L) H0 H locs
def yGo (η : zRn) (kds : List zKD) (D : va_G) (cl : List vw_C) (cy : Nat → ClassId) (L : List Nat) (Θ : Nat → Option Nat) (nL : Nat) (p : Program) (l : Launch) (e : Env) (R : Room) (s : State) (m : MethodId) (args : Array Value) (below : List Frame) (meth : Method) (c : Code) (Q : State → Prop) (pc : Nat) (P : yP) : Prop :=
  ∀ (loc : yL) (st : List yV) (h : yH) (H : Heap) (locs : List Loc) (ls : Array Slot), P loc st h → yG η kds D cl cy L Θ s.heap nL loc st h H locs ls → W p l e R s m args below meth c H locs 0 0 Q (F0 m pc ls (st.map (yvo η)))
/-! what instructions are -/
def yCst (t : Nat) (n : Int) (P : yP) : yP := fun loc st h => P loc ((t, n) :: st) h
def yLd (i t : Nat) (P : yP) : yP := fun loc st h => match yfind loc i with
  | some a => a.1 = t ∧ P loc (a :: st) h
  | none => False
def ySt (i t : Nat) (P : yP) : yP := fun loc st h => match st with
  | a :: st' => a.1 = t ∧ P (yput loc i a) st' h
  | [] => False
def ySt2 (i : Nat) (P : yP) : yP := fun loc st h => match st with
  | a :: st' => a.1 = 1 ∧ P (yput (ydel loc (i + 1)) i a) st' h
  | [] => False
def yInc (i : Nat) (n : Int) (P : yP) : yP := fun loc st h => match yfind loc i with
  | some a => a.1 = 0 ∧ (-2147483648 ≤ a.2 + n ∧ a.2 + n ≤ 2147483647) ∧ P (yput loc i (0, a.2 + n)) st h
  | none => False
def yAdd (P : yP) : yP := fun loc st h => match st with
  | b :: a :: st' => (a.1 = 0 ∧ b.1 = 0) ∧ (-2147483648 ≤ a.2 + b.2 ∧ a.2 + b.2 ≤ 2147483647) ∧ P loc ((0, a.2 + b.2) :: st') h
  | _ => False
def ySub (P : yP) : yP := fun loc st h => match st with
  | b :: a :: st' => (a.1 = 0 ∧ b.1 = 0) ∧ (-2147483648 ≤ a.2 - b.2 ∧ a.2 - b.2 ≤ 2147483647) ∧ P loc ((0, a.2 - b.2) :: st') h
  | _ => False
def yMul (P : yP) : yP := fun loc st h => match st with
  | b :: a :: st' => (a.1 = 0 ∧ b.1 = 0) ∧ (-2147483648 ≤ a.2 * b.2 ∧ a.2 * b.2 ≤ 2147483647) ∧ P loc ((0, a.2 * b.2) :: st') h
  | _ => False
/-- the other operations of two numbers, as the machine does them -/
def yari (op : Nat) (x y : Int) : Int := (zsem op (Int32.ofInt x) (Int32.ofInt y)).toInt
def yAri (op : Nat) (P : yP) : yP := fun loc st h => match st with
  | b :: a :: st' => (a.1 = 0 ∧ b.1 = 0) ∧ P loc ((0, yari op a.2 b.2) :: st') h
  | _ => False
def yushr (x y : Int) : Int := (((Int32.ofInt x).toUInt32 >>> ((Int32.ofInt y).toUInt32 &&& Int32.toUInt32 31)).toInt32).toInt
def yUshr (P : yP) : yP := fun loc st h => match st with
  | b :: a :: st' => (a.1 = 0 ∧ b.1 = 0) ∧ P loc ((0, yushr a.2 b.2) :: st') h
  | _ => False
def yi2b (x : Int) : Int := ((Int32.ofInt x).toInt8.toInt32).toInt
def yI2b (P : yP) : yP := fun loc st h => match st with
  | a :: st' => a.1 = 0 ∧ P loc ((0, yi2b a.2) :: st') h
  | _ => False
def yI2l (P : yP) : yP := fun loc st h => match st with
  | a :: st' => a.1 = 0 ∧ P loc ((1, a.2) :: st') h
  | _ => False
def ylor (x y : Int) : Int := (Int64.ofInt x ||| Int64.ofInt y).toInt
def yLor (P : yP) : yP := fun loc st h => match st with
  | b :: a :: st' => (a.1 = 1 ∧ b.1 = 1) ∧ P loc ((1, ylor a.2 b.2) :: st') h
  | _ => False
def ylshl (x y : Int) : Int := (Int64.ofInt x <<< ((Int32.ofInt y).toInt64 &&& 63)).toInt
def yLshl (P : yP) : yP := fun loc st h => match st with
  | b :: a :: st' => (a.1 = 1 ∧ b.1 = 0) ∧ P loc ((1, ylshl a.2 b.2) :: st') h
  | _ => False
def yDup (P : yP) : yP := fun loc st h => match st with
  | a :: st' => ¬ a.1 = 1 ∧ P loc (a :: a :: st') h
  | _ => False
def yDup2 (P : yP) : yP := fun loc st h => match st with
  | a :: b :: st' => (¬ a.1 = 1 ∧ ¬ b.1 = 1) ∧ P loc (a :: b :: a :: b :: st') h
  | _ => False
def yPop (P : yP) : yP := fun loc st h => match st with
  | a :: st' => ¬ a.1 = 1 ∧ P loc st' h
  | _ => False
/-- a value that may be null is none (no instruction) -/
def yNn (Θ : Nat → Option Nat) (P : yP) : yP := fun loc st h => match st with
  | a :: st' => (2 ≤ a.1 ∧ a.1 < 100002) ∧ 0 ≤ a.2 ∧ (Θ a.2.toNat = some (a.1 - 2) → P loc ((a.1 + 100000, a.2) :: st') h)
  | _ => False
def yGet (k j t : Nat) (lo hi : Int) (P : yP) : yP := fun loc st h => match st with
  | a :: st' => a.1 = k + 100002 ∧ (lo ≤ h a.2.toNat j → h a.2.toNat j ≤ hi → P loc ((t, h a.2.toNat j) :: st') h)
  | _ => False
/-- a field that holds a cell -/
def yGetP (Θ : Nat → Option Nat) (k j k2 : Nat) (P : yP) : yP := fun loc st h => match st with
  | a :: st' => a.1 = k + 100002 ∧ (0 ≤ h a.2.toNat j → Θ (h a.2.toNat j).toNat = some k2 → P loc ((k2 + 100002, h a.2.toNat j) :: st') h)
  | _ => False
def yPut (k j : Nat) (lo hi : Int) (P : yP) : yP := fun loc st h => match st with
  | v :: a :: st' => (a.1 = k + 100002 ∧ v.1 = 0) ∧ (lo ≤ v.2 ∧ v.2 ≤ hi) ∧ P loc st' (zup h a.2.toNat j v.2)
  | _ => False
def yPut0 (k j t : Nat) (P : yP) : yP := fun loc st h => match st with
  | v :: a :: st' => (a.1 = k + 100002 ∧ v.1 = t) ∧ P loc st' (zup h a.2.toNat j v.2)
  | _ => False
def yAld (k n : Nat) (lo hi : Nat → Int) (P : yP) : yP := fun loc st h => match st with
  | i :: a :: st' => (a.1 = k + 100002 ∧ i.1 = 0) ∧ (0 ≤ i.2 ∧ i.2 < (n : Int)) ∧ (lo i.2.toNat ≤ h a.2.toNat i.2.toNat → h a.2.toNat i.2.toNat ≤ hi i.2.toNat → P loc ((0, h a.2.toNat i.2.toNat) :: st') h)
  | _ => False
def yAldq (Θ : Nat → Option Nat) (k n k2 : Nat) (P : yP) : yP := fun loc st h => match st with
  | i :: a :: st' => (a.1 = k + 100002 ∧ i.1 = 0) ∧ (0 ≤ i.2 ∧ i.2 < (n : Int)) ∧ (0 ≤ h a.2.toNat i.2.toNat → Θ (h a.2.toNat i.2.toNat).toNat = some k2 → P loc ((k2 + 100002, h a.2.toNat i.2.toNat) :: st') h)
  | _ => False
def yAst (k n : Nat) (lo hi : Nat → Int) (P : yP) : yP := fun loc st h => match st with
  | v :: i :: a :: st' => (a.1 = k + 100002 ∧ i.1 = 0 ∧ v.1 = 0) ∧ (0 ≤ i.2 ∧ i.2 < (n : Int)) ∧ (lo i.2.toNat ≤ v.2 ∧ v.2 ≤ hi i.2.toNat) ∧ P loc st' (zup h a.2.toNat i.2.toNat v.2)
  | _ => False
def yLen (k : Nat) (n : Int) (P : yP) : yP := fun loc st h => match st with
  | a :: st' => a.1 = k + 100002 ∧ P loc ((0, n) :: st') h
  | _ => False
def yLt (P1 P2 : yP) : yP := fun loc st h => match st with
  | b :: a :: st' => (a.1 = 0 ∧ b.1 = 0) ∧ if a.2 < b.2 then P1 loc st' h else P2 loc st' h
  | _ => False
def yGt (P1 P2 : yP) : yP := fun loc st h => match st with
  | b :: a :: st' => (a.1 = 0 ∧ b.1 = 0) ∧ if b.2 < a.2 then P1 loc st' h else P2 loc st' h
  | _ => False
def yEq (P1 P2 : yP) : yP := fun loc st h => match st with
  | b :: a :: st' => (a.1 = 0 ∧ b.1 = 0) ∧ if a.2 = b.2 then P1 loc st' h else P2 loc st' h
  | _ => False
def yLt0 (P1 P2 : yP) : yP := fun loc st h => match st with
  | a :: st' => a.1 = 0 ∧ if a.2 < 0 then P1 loc st' h else P2 loc st' h
  | _ => False
def yGt0 (P1 P2 : yP) : yP := fun loc st h => match st with
  | a :: st' => a.1 = 0 ∧ if 0 < a.2 then P1 loc st' h else P2 loc st' h
  | _ => False
def yEq0 (P1 P2 : yP) : yP := fun loc st h => match st with
  | a :: st' => a.1 = 0 ∧ if a.2 = 0 then P1 loc st' h else P2 loc st' h
  | _ => False
/-- two longs: alike or not -/
def yLEq (P1 P2 : yP) : yP := fun loc st h => match st with
  | b :: a :: st' => (a.1 = 1 ∧ b.1 = 1) ∧ if a.2 = b.2 then P1 loc st' h else P2 loc st' h
  | _ => False
def yNull (P1 P2 : yP) : yP := fun loc st h => match st with
  | a :: st' => 2 ≤ a.1 ∧ if a.2 < 0 then P1 loc st' h else P2 loc st' h
  | _ => False
def ysw (x : Int) (Pd : yP) : List (Int × yP) → yP
  | [] => Pd
  | (k, P) :: r => fun loc st h => if x = k then P loc st h else ysw x Pd r loc st h
def ySw (l : List (Int × yP)) (Pd : yP) : yP := fun loc st h => match st with
  | a :: st' => a.1 = 0 ∧ ysw a.2 Pd l loc st' h
  | _ => False
def yRi (R : yQt) : yP := fun _ st h => match st with
  | [a] => a.1 = 0 ∧ R a h
  | _ => False
def yRz (R : yQt) : yP := fun _ st h => match st with
  | [a] => a.1 = 0 ∧ (0 ≤ a.2 ∧ a.2 ≤ 1) ∧ R a h
  | _ => False
/-- a reference goes back as one that may be null -/
def yRa (k : Nat) (R : yQt) : yP := fun _ st h => match st with
  | [a] => (a.1 = k + 100002 ∨ a.1 = k + 2 ∨ (2 ≤ a.1 ∧ a.2 = -1)) ∧ R (k + 2, a.2) h
  | _ => False
def yRv (R : yQt) : yP := fun _ st h => match st with
  | [] => R (0, 0) h
  | _ => False
/-- a call, of a method with an answer and of one without: tags of the values, and what the method does -/
def yCalR (Θ : Nat → Option Nat) (n : Nat) (tags : List Nat) (B : yB) (P : yP) : yP := fun loc st h => (n ≤ st.length ∧ (st.drop n).length ≤ 4) ∧ (st.take n).reverse.map Prod.fst = tags ∧ B Θ ((st.take n).reverse.map Prod.snd) h (fun v h' => yok Θ v → P loc (v :: st.drop n) h')
def yCalV (Θ : Nat → Option Nat) (n : Nat) (tags : List Nat) (B : yB) (P : yP) : yP := fun loc st h => (n ≤ st.length ∧ (st.drop n).length ≤ 4) ∧ (st.take n).reverse.map Prod.fst = tags ∧ B Θ ((st.take n).reverse.map Prod.snd) h (fun _ h' => P loc (st.drop n) h')
end
