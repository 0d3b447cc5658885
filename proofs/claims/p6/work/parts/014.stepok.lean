variable {η : zRn}
/-! the step is sound -/
/-- what is said of a field of the pool -/
def zFok (own : String) (Ts : List Cond) (cl : List vw_C) (q : Nat × Nat × Nat × Option FieldType) : Prop :=
  ∃ (C : String) (T : u_T) (N : Nat), cl[q.2.1]? = some (C, T, N) ∧ (∀ w ∈ u_ws C T N, w ∈ Ts) ∧ q.2.2.1 < N ∧ Cond.fieldLink own q.1 (T q.2.2.1).1 (T q.2.2.1).2.1 (T q.2.2.1).2.2.1 ∈ Ts ∧
    ∀ ty, q.2.2.2 = some ty → (T q.2.2.1).2.2.2 = false ∧ ∃ ty0 : Nat → FieldType, (∀ k, k < N → parseFieldDescriptor (T k).2.2.1 = some (ty0 k)) ∧ (∀ a, a < N → ∀ b, b < N → a ≠ b → (T a).2.1 ≠ (T b).2.1) ∧ ty0 q.2.2.1 = ty
/-- the array classes -/
def zTy (cy : Nat → ClassId) (tys : List (ClassId × FieldType)) : Prop :=
  tys[0]? = some (cy 0, .int) ∧ tys[1]? = some (cy 1, .byte) ∧ tys[2]? = some (cy 2, .boolean) ∧ ∀ t, 3 ≤ t → t ≤ 6 → ∃ C : String, tys[t]? = some (cy t, .object C)
section ZSO
variable {kds : List zKD} {D : va_G} {cl : List vw_C} {cy : Nat → ClassId} {L : List Nat} {Θ : Nat → Option Nat} {h0 : Nat → Nat → Int} {eff : List (Nat × Nat × Nat)} {A : Nat → Prop} {H0 : Heap} {nL : Nat}
variable {p : Program} {l : Launch} {e : Env} {R : Room} {s : State} {m : MethodId} {args : Array Value} {below : List Frame} {meth : Method} {c : Code} {Q : State → Prop}
variable {cc : ByteArray} {σA : List Int} {pc : Nat} {as as' : zAS} {tys : List (ClassId × FieldType)} {Ts : List Cond} {own : String} {fl : zFL} {cs : List (Nat × Int) × List (Nat × Int)}
theorem zs_cst {t : Nat} {n lo hi : Int} {len : Nat} (h : zo_cst as t n lo hi = some as') (hn : lo ≤ n → n ≤ hi → zok Θ t n)
    (hw : lo ≤ n → n ≤ hi → ∀ (H : Heap) (locs : List Loc) (ls : Array Slot) (rest : List Value), W p l e R s m args below meth c H locs 0 0 Q (F0 m (pc + len) ls (zdec η t n :: rest)) → W p l e R s m args below meth c H locs 0 0 Q (F0 m pc ls rest))
    (k : zGo η kds D cl cy L Θ h0 eff A H0 nL p l e R s m args below meth c Q σA (pc + len) as') : zGo η kds D cl cy L Θ h0 eff A H0 nL p l e R s m args below meth c Q σA pc as := by
  unfold zo_cst at h
  split at h
  · rename_i hc
    cases h
    simp only [Bool.and_eq_true, decide_eq_true_eq] at hc
    exact zgo_cst hc.1.1 (hn hc.1.2 hc.2) (hw hc.1.2 hc.2) k
  · cases h
theorem z_vI {σ : List Int} {a : zAV} (ga : zga Θ σ a) (h : zisI a.1 = true) : ∃ x : Int32, zvo η σ a = .int x := by
  obtain ⟨x, hx, -⟩ := z_ci ga (of_decide_eq_true h)
  exact ⟨x, hx⟩
theorem z_vL {σ : List Int} {a : zAV} (h : zisL a.1 = true) : ∃ x : Int64, zvo η σ a = .long x := by
  obtain ⟨t, i, o⟩ := a
  have := of_decide_eq_true h
  simp only at this
  subst this
  exact ⟨_, rfl⟩
theorem z_vA {σ : List Int} {a : zAV} (h : zisA a.1 = true) : zvo η σ a = .null ∨ ∃ x : Nat, zvo η σ a = .ref x := by
  obtain ⟨t, i, o⟩ := a
  have := of_decide_eq_true h
  simp only at this
  match t, this with
  | t + 2, _ =>
    unfold zvo
    show va_rf (zrf η (zev σ (t + 2, i, o))) = .null ∨ ∃ x : Nat, va_rf (zrf η (zev σ (t + 2, i, o))) = .ref x
    cases zrf η (zev σ (t + 2, i, o)) with
    | none => exact Or.inl rfl
    | some x => exact Or.inr ⟨x, rfl⟩
theorem zs_ld {i len : Nat} {tp : Nat → Bool} (h : zo_ld as i tp = some as')
    (hw : ∀ (a : zAV), tp a.1 = true → ∀ (v : Value) (H : Heap) (locs : List Loc) (ls : Array Slot) (rest : List Value), (∃ σ : List Int, zga Θ σ a ∧ v = zvo η σ a) → ls[i]? = some (.val v) → W p l e R s m args below meth c H locs 0 0 Q (F0 m (pc + len) ls (v :: rest)) → W p l e R s m args below meth c H locs 0 0 Q (F0 m pc ls rest))
    (k : zGo η kds D cl cy L Θ h0 eff A H0 nL p l e R s m args below meth c Q σA (pc + len) as') : zGo η kds D cl cy L Θ h0 eff A H0 nL p l e R s m args below meth c Q σA pc as := by
  unfold zo_ld at h
  split at h
  · rename_i a ha
    split at h
    · rename_i ht
      cases h
      exact zgo_ld (cc := ByteArray.empty) ha (hw a ht) k
    · cases h
  · cases h
theorem zs_st {i len : Nat} {tp : Nat → Bool} (h : zo_st as i nL tp = some as')
    (hw : ∀ (a : zAV), tp a.1 = true → i < nL → ∀ (v : Value) (H : Heap) (locs : List Loc) (ls : Array Slot) (rest : List Value) (lv : List (Nat × Value)), (∃ σ : List Int, zga Θ σ a ∧ v = zvo η σ a) → lv_has ls nL lv →
      (∀ ls' : Array Slot, lv_has ls' nL ((i, v) :: lv.filter (fun q => !(q.1 == i) && !(q.1 + 1 == i && q.2.category == 2))) → W p l e R s m args below meth c H locs 0 0 Q (F0 m (pc + len) ls' rest)) → W p l e R s m args below meth c H locs 0 0 Q (F0 m pc ls (v :: rest)))
    (k : zGo η kds D cl cy L Θ h0 eff A H0 nL p l e R s m args below meth c Q σA (pc + len) as') : zGo η kds D cl cy L Θ h0 eff A H0 nL p l e R s m args below meth c Q σA pc as := by
  unfold zo_st at h
  split at h
  · rename_i a st hs
    split at h
    · rename_i ht
      cases h
      simp only [Bool.and_eq_true, decide_eq_true_eq] at ht
      exact zgo_sto (cc := ByteArray.empty) hs (hw a ht.1 ht.2) k
    · cases h
  · cases h
theorem zs_st2 {i len : Nat} (h : zo_st2 as i nL = some as')
    (hw : i + 1 < nL → ∀ (x : Int64) (H : Heap) (locs : List Loc) (ls : Array Slot) (rest : List Value) (lv : List (Nat × Value)), lv_has ls nL lv →
      (∀ ls' : Array Slot, lv_has ls' nL ((i, .long x) :: lv.filter (fun q => !(q.1 == i) && (!(q.1 == i + 1) && !(q.1 + 1 == i && q.2.category == 2)))) → W p l e R s m args below meth c H locs 0 0 Q (F0 m (pc + len) ls' rest)) → W p l e R s m args below meth c H locs 0 0 Q (F0 m pc ls (.long x :: rest)))
    (k : zGo η kds D cl cy L Θ h0 eff A H0 nL p l e R s m args below meth c Q σA (pc + len) as') : zGo η kds D cl cy L Θ h0 eff A H0 nL p l e R s m args below meth c Q σA pc as := by
  unfold zo_st2 at h
  split at h
  · rename_i a st hs
    split at h
    · rename_i ht
      cases h
      simp only [Bool.and_eq_true, decide_eq_true_eq] at ht
      intro τ h H locs ls g
      obtain ⟨gE, gL, hl, gS, gV, gR, gH, gF, gX⟩ := g
      rw [hs] at gS ⊢
      have ha := gS a List.mem_cons_self
      obtain ⟨x, hx⟩ := z_vL (σ := σA ++ τ) (a := a) (decide_eq_true ht.1)
      rw [List.map_cons, hx]
      refine hw ht.2 x H locs ls _ _ hl (fun ls' hl' => ?_)
      rw [← hx, z_put2] at hl'
      exact k τ h H locs ls' ⟨gE, z_pm2 gL ha, hl', fun b hb => gS b (List.mem_cons_of_mem _ hb), gV, gR, gH, gF, gX⟩
    · cases h
  · cases h
theorem zs_ari {op : Nat} (h : zo_ari as op = some as')
    (hw : ∀ (x y : Int32) (H : Heap) (locs : List Loc) (ls : Array Slot) (rest : List Value), (op = 3 ∨ op = 4 → 1 ≤ y.toInt) → W p l e R s m args below meth c H locs 0 0 Q (F0 m (pc + 1) ls (.int (zsem op x y) :: rest)) → W p l e R s m args below meth c H locs 0 0 Q (F0 m pc ls (.int y :: .int x :: rest)))
    (k : zGo η kds D cl cy L Θ h0 eff A H0 nL p l e R s m args below meth c Q σA (pc + 1) as') : zGo η kds D cl cy L Θ h0 eff A H0 nL p l e R s m args below meth c Q σA pc as := by
  unfold zo_ari at h
  split at h
  · rename_i b a st hs
    split at h
    · rename_i ht
      simp only [Bool.and_eq_true, decide_eq_true_eq] at ht
      split at h
      · rename_i x hx
        cases h
        exact zgo_ari hs ht hx hw k
      · cases h
    · cases h
  · cases h
theorem zs_f1 {t1 t : Nat} {f : zIV → zIV} (h : zo_f1 as t1 t f = some as')
    (hw : ∀ (a : zAV) (σ : List Int) (q : zIV), a.1 = t1 → zga Θ σ a → q.1 ≤ zev σ a → zev σ a ≤ q.2 → ∃ x : Int, (f q).1 ≤ x ∧ x ≤ (f q).2 ∧ zok Θ t x ∧ ∀ (H : Heap) (locs : List Loc) (ls : Array Slot) (rest : List Value), W p l e R s m args below meth c H locs 0 0 Q (F0 m (pc + 1) ls (zdec η t x :: rest)) → W p l e R s m args below meth c H locs 0 0 Q (F0 m pc ls (zvo η σ a :: rest)))
    (k : zGo η kds D cl cy L Θ h0 eff A H0 nL p l e R s m args below meth c Q σA (pc + 1) as') : zGo η kds D cl cy L Θ h0 eff A H0 nL p l e R s m args below meth c Q σA pc as := by
  unfold zo_f1 at h
  split at h
  · rename_i a st hs
    split at h
    · rename_i ht
      split at h
      · rename_i q hq
        cases h
        refine zgo_push k (fun σ h H locs ls g => ?_)
        have gS := g.2.2.2.1
        rw [hs] at gS ⊢
        have b := z_iv g.1 hq
        obtain ⟨x, e1, e2, e3, e4⟩ := hw a σ q ht (gS a List.mem_cons_self) b.1 b.2
        exact ⟨fun q hq => gS q (List.mem_cons_of_mem _ hq), x, e1, e2, e3, fun w => e4 H locs ls _ w⟩
      · cases h
    · cases h
  · cases h
theorem zs_f2 {t1 t2 t : Nat} {q : zIV} (h : zo_f2 as t1 t2 t q = some as')
    (hw : ∀ (a b : zAV) (σ : List Int), a.1 = t1 → b.1 = t2 → zga Θ σ a → zga Θ σ b → ∃ x : Int, q.1 ≤ x ∧ x ≤ q.2 ∧ zok Θ t x ∧ ∀ (H : Heap) (locs : List Loc) (ls : Array Slot) (rest : List Value), W p l e R s m args below meth c H locs 0 0 Q (F0 m (pc + 1) ls (zdec η t x :: rest)) → W p l e R s m args below meth c H locs 0 0 Q (F0 m pc ls (zvo η σ b :: zvo η σ a :: rest)))
    (k : zGo η kds D cl cy L Θ h0 eff A H0 nL p l e R s m args below meth c Q σA (pc + 1) as') : zGo η kds D cl cy L Θ h0 eff A H0 nL p l e R s m args below meth c Q σA pc as := by
  unfold zo_f2 at h
  split at h
  · rename_i b a st hs
    split at h
    · rename_i ht
      simp only [Bool.and_eq_true, decide_eq_true_eq] at ht
      cases h
      refine zgo_push k (fun σ h H locs ls g => ?_)
      have gS := g.2.2.2.1
      rw [hs] at gS ⊢
      obtain ⟨x, e1, e2, e3, e4⟩ := hw a b σ ht.1 ht.2 (gS a (List.mem_cons_of_mem _ List.mem_cons_self)) (gS b List.mem_cons_self)
      exact ⟨fun q hq => gS q (List.mem_cons_of_mem _ (List.mem_cons_of_mem _ hq)), x, e1, e2, e3, fun w => e4 H locs ls _ w⟩
    · cases h
  · cases h
theorem z_vL2 {σ : List Int} {a : zAV} (ht : a.1 = 1) : ∃ x : Int64, zvo η σ a = .long x := z_vL (decide_eq_true ht)
theorem z_d64 (x : Int64) : zdec η 1 x.toInt = .long x := by
  show Value.long (Int64.ofInt x.toInt) = _
  rw [z_ofi64]
theorem z_d32 (x : Int32) : zdec η 0 x.toInt = .int x := by
  show Value.int (Int32.ofInt x.toInt) = _
  rw [z_ofi]
theorem zs_iinc (hexec : p.tables.exec = Jvm.exec) (hb : c.code = cc) {i : Nat} {n : Int} (hdg : decode cc pc = .ok (.iinc i n, 3)) (h : zo_iinc as i n nL = some as')
    (k : zGo η kds D cl cy L Θ h0 eff A H0 nL p l e R s m args below meth c Q σA (pc + 3) as') : zGo η kds D cl cy L Θ h0 eff A H0 nL p l e R s m args below meth c Q σA pc as := by
  unfold zo_iinc at h
  split at h
  · rename_i a ha
    split at h
    · rename_i hc
      simp only [Bool.and_eq_true, decide_eq_true_eq] at hc
      obtain ⟨⟨⟨⟨c1, c2⟩, c3⟩, c4⟩, c5⟩ := hc
      split at h
      · rename_i w hw
        cases h
        intro τ h H locs ls g
        obtain ⟨gE, gL, hl, gS, gV, gR, gH, gF, gX⟩ := g
        have ga := gL (i, a) (z_find ha)
        obtain ⟨x, ex, hx⟩ := z_ci ga c1
        have hy : (Int32.ofInt n).toInt = zev (σA ++ τ) (0, 0, n) := by rw [z_e0 gE c3, z_toi (by omega) (by omega)]
        have gn : zga Θ (σA ++ τ) (0, 0, n) := z_cg gE c3 (show _ ∧ _ by omega)
        obtain ⟨τ', hE, hd, hv⟩ := z_ari hw gE ga gn hx hy
        obtain ⟨j, hj⟩ := List.getElem?_of_mem (List.mem_map.mpr ⟨(i, a), z_find ha, rfl⟩ : (i, zvo η (σA ++ τ) a) ∈ as.2.1.map fun q => (q.1, zvo η (σA ++ τ) q.2))
        rw [ex] at hj
        refine lv_iinc (v := zsem 0 x (Int32.ofInt n)) hexec hb hdg hl hj rfl c2 rfl (fun ls' hl' => ?_)
        have hl2 : lv_has ls' nL ((zput as.2.1 i w.2).map fun q => (q.1, zvo η ((σA ++ τ) ++ τ') q.2)) := by
          rw [← z_put, hv]
          have e : (as.2.1.map fun q => (q.1, zvo η ((σA ++ τ) ++ τ') q.2)) = as.2.1.map fun q => (q.1, zvo η (σA ++ τ) q.2) := List.map_congr_left fun q hq => by rw [z_vo (gL q hq).1]
          rw [e]
          exact hl'
        have wk := k (τ ++ τ') h H locs ls' ⟨by rw [← List.append_assoc]; exact hE, z_pm (fun q hq => by rw [← List.append_assoc]; exact z_ga (gL q hq)) (by rw [← List.append_assoc]; exact hd), by rw [← List.append_assoc]; exact hl2, fun q hq => by rw [← List.append_assoc]; exact z_ga (gS q hq), by rw [← List.append_assoc]; exact z_gv gV, by rw [← List.append_assoc]; exact z_gr gR, gH, gF, gX⟩
        rw [← List.append_assoc] at wk
        simp only at wk
        rw [z_st gS] at wk
        exact wk
      · cases h
    · cases h
  · cases h
theorem zs_stk {st0 st : List zAV} {len : Nat} (hs : as.2.2.1 = st0) (hsub : ∀ a ∈ st, a ∈ st0)
    (hw : ∀ (σ : List Int) (H : Heap) (locs : List Loc) (ls : Array Slot), W p l e R s m args below meth c H locs 0 0 Q (F0 m (pc + len) ls (st.map (zvo η σ))) → W p l e R s m args below meth c H locs 0 0 Q (F0 m pc ls (st0.map (zvo η σ))))
    (k : zGo η kds D cl cy L Θ h0 eff A H0 nL p l e R s m args below meth c Q σA (pc + len) (as.1, as.2.1, st, as.2.2.2)) : zGo η kds D cl cy L Θ h0 eff A H0 nL p l e R s m args below meth c Q σA pc as := by
  refine zgo_stk k (fun σ h H locs ls g => ?_)
  have gS := g.2.2.2.1
  rw [hs] at gS ⊢
  exact ⟨fun a ha => gS a (hsub a ha), hw σ H locs ls⟩
end ZSO
