section
variable {η : zRn}
/-! the rows -/
theorem y_int {Θ : Nat → Option Nat} {a : yV} (h : yok Θ a) (ht : a.1 = 0) : ∃ x : Int32, yvo η a = .int x ∧ x.toInt = a.2 := by
  obtain ⟨t, n⟩ := a
  simp only at ht
  subst ht
  unfold yok at h
  rw [if_pos (by simp)] at h
  exact ⟨Int32.ofInt n, rfl, z_toi h.1 h.2⟩
theorem y_long {Θ : Nat → Option Nat} {a : yV} (h : yok Θ a) (ht : a.1 = 1) : ∃ x : Int64, yvo η a = .long x ∧ x.toInt = a.2 := by
  obtain ⟨t, n⟩ := a
  simp only at ht
  subst ht
  unfold yok at h
  rw [if_pos (by simp)] at h
  refine ⟨Int64.ofInt n, rfl, ?_⟩
  have h2 : -9223372036854775808 ≤ n ∧ n ≤ 9223372036854775807 := h
  rw [Int64.toInt_ofInt]
  exact Int.bmod_eq_of_le (by simp only [Int64.size]; omega) (by simp only [Int64.size]; omega)
theorem y_ref {Θ : Nat → Option Nat} {a : yV} {k : Nat} (h : yok Θ a) (ht : a.1 = k + 100002) : 0 ≤ a.2 ∧ Θ a.2.toNat = some k ∧ yvo η a = .ref (η.1 a.2.toNat) := by
  obtain ⟨t, n⟩ := a
  simp only at ht
  subst ht
  unfold yok at h
  rw [if_neg (by simp)] at h
  refine ⟨h.1, h.2.trans (congrArg some (by simp only; omega)), ?_⟩
  show zdec η (k + 100002) n = _
  show va_rf (zrf η n) = _
  unfold zrf
  rw [if_neg (by have := h.1; simp only at this; omega)]
  rfl
theorem y_zok {Θ : Nat → Option Nat} {t : Nat} {x : Int} (h : 2 ≤ t) (hz : zok Θ t x) : x = -1 ∨ (0 ≤ x ∧ Θ x.toNat = some (t - 2)) := by
  match t, h, hz with
  | t + 2, _, hz => exact hz
theorem y_okn {Θ : Nat → Option Nat} {t : Nat} {n : Int} (h1 : 2 ≤ t) (h3 : 0 ≤ n) (hΘ : Θ n.toNat = some (t - 2)) : yok Θ (t + 100000, n) := by
  unfold yok
  rw [if_neg (by simp only; omega)]
  exact ⟨h3, hΘ.trans (congrArg some (by simp only; omega))⟩
theorem y_nul {Θ : Nat → Option Nat} {a : yV} (h : yok Θ a) (ht : 2 ≤ a.1) : (a.2 < 0 ∧ yvo η a = .null) ∨ (0 ≤ a.2 ∧ yvo η a = .ref (η.1 a.2.toNat)) := by
  obtain ⟨t, n⟩ := a
  match t, ht with
  | t + 2, _ =>
    by_cases hn : n < 0
    · refine Or.inl ⟨hn, ?_⟩
      show va_rf (zrf η n) = _
      unfold zrf
      rw [if_pos hn]
      rfl
    · refine Or.inr ⟨by simp only; omega, ?_⟩
      show va_rf (zrf η n) = _
      unfold zrf
      rw [if_neg hn]
      rfl
theorem y_i0 (Θ : Nat → Option Nat) (x : Int32) : yok Θ (0, x.toInt) := by
  unfold yok
  rw [if_pos (by simp)]
  exact ⟨z_lo x, z_hi x⟩
theorem y_i {Θ : Nat → Option Nat} {n : Int} (h1 : -2147483648 ≤ n) (h2 : n ≤ 2147483647) : yok Θ (0, n) := by
  unfold yok
  rw [if_pos (by simp)]
  exact ⟨h1, h2⟩
theorem y_l0 (Θ : Nat → Option Nat) (x : Int64) : yok Θ (1, x.toInt) := by
  unfold yok
  rw [if_pos (by simp)]
  exact ⟨z_lo64 x, z_hi64 x⟩
theorem y_cat (a : yV) : ((yvo η a).category == 2) = (a.1 == 1) := z_cat a.1 a.2
theorem y_cat1 (a : yV) (h : ¬ a.1 = 1) : (yvo η a).category = 1 := z_cat1 a.2 h
theorem y_fm {loc : yL} {i : Nat} {a : yV} (h : yfind loc i = some a) : (i, a) ∈ loc := by
  induction loc with
  | nil => cases h
  | cons q r ih =>
    obtain ⟨j, b⟩ := q
    unfold yfind at h
    split at h
    · rename_i e
      cases h
      subst e
      exact List.mem_cons_self
    · exact List.mem_cons_of_mem _ (ih h)
theorem y_del (loc : yL) (i : Nat) : ydel loc i = loc.filter (fun q => !(q.1 == i) && !(q.1 + 1 == i && q.2.1 == 1)) := by
  induction loc with
  | nil => rfl
  | cons q r ih =>
    obtain ⟨j, a⟩ := q
    unfold ydel
    rw [List.filter_cons, ih]
    by_cases h1 : j = i
    · simp [h1]
    · by_cases h2 : j + 1 = i ∧ a.1 = 1
      · simp [h1, h2.1, h2.2]
      · rw [if_neg h1, if_neg h2]
        rw [if_pos]
        simp only [Bool.and_eq_true, Bool.not_eq_true', beq_eq_false_iff_ne, ne_eq, Bool.and_eq_false_iff]
        refine ⟨h1, ?_⟩
        by_cases h3 : j + 1 = i
        · exact Or.inr (fun h4 => h2 ⟨h3, h4⟩)
        · exact Or.inl h3
theorem y_dsub {loc : yL} {i : Nat} : ∀ q ∈ ydel loc i, q ∈ loc := by
  intro q hq
  rw [y_del] at hq
  exact (List.mem_filter.mp hq).1
theorem y_pmap {loc : yL} {i : Nat} {a : yV} : (i, yvo η a) :: (loc.map fun q => (q.1, yvo η q.2)).filter (fun q => !(q.1 == i) && !(q.1 + 1 == i && q.2.category == 2)) = (yput loc i a).map fun q => (q.1, yvo η q.2) := by
  unfold yput
  rw [List.map_cons, y_del, List.filter_map]
  congr 2
  apply List.filter_congr
  intro q _
  simp only [Function.comp]
  rw [y_cat]
theorem y_pm {Pr : yV → Prop} {loc : yL} {i : Nat} {a : yV} (h : ∀ q ∈ loc, Pr q.2) (ha : Pr a) : ∀ q ∈ yput loc i a, Pr q.2 := by
  intro q hq
  rcases List.mem_cons.mp hq with rfl | hq
  · exact ha
  · exact h q (y_dsub q hq)
section YRW
variable {kds : List zKD} {D : va_G} {cl : List vw_C} {cy : Nat → ClassId} {L : List Nat} {Θ : Nat → Option Nat} {nL : Nat}
variable {p : Program} {l : Launch} {e : Env} {R : Room} {s : State} {m : MethodId} {args : Array Value} {below : List Frame} {meth : Method} {c : Code} {Q : State → Prop}
variable {cc : ByteArray} {pc : Nat} {tys : List (ClassId × FieldType)} {Ts : List Cond} {own : String} {P P1 P2 : yP}
theorem yr_mono {P' : yP} (h : ∀ loc st h, P loc st h → P' loc st h) (k : yGo η kds D cl cy L Θ nL p l e R s m args below meth c Q (pc) (P')) : yGo η kds D cl cy L Θ nL p l e R s m args below meth c Q (pc) (P) := fun loc st h' H locs ls hp g => k loc st h' H locs ls (h loc st h' hp) g
theorem yg_st {loc : yL} {st st' : List yV} {h : yH} {H H0 : Heap} {locs : List Loc} {ls : Array Slot} (g : yG η kds D cl cy L Θ H0 nL loc st h H locs ls) (hs : ∀ a ∈ st', yok Θ a) : yG η kds D cl cy L Θ H0 nL loc st' h H locs ls := ⟨g.1, g.2.1, hs, g.2.2.2.1, g.2.2.2.2⟩
/-- a constant -/
theorem yr_cst {t : Nat} {n : Int} {len : Nat} (hn : yok Θ (t, n)) (hw : ∀ (H : Heap) (locs : List Loc) (ls : Array Slot) (rest : List Value), W p l e R s m args below meth c H locs 0 0 Q (F0 m (pc + len) ls (yvo η (t, n) :: rest)) → W p l e R s m args below meth c H locs 0 0 Q (F0 m pc ls rest)) (k : yGo η kds D cl cy L Θ nL p l e R s m args below meth c Q (pc + len) (P)) : yGo η kds D cl cy L Θ nL p l e R s m args below meth c Q (pc) (yCst t n P) := by
  intro loc st h H locs ls hp g
  refine hw H locs ls _ (k loc ((t, n) :: st) h H locs ls hp (yg_st g ?_))
  intro a ha
  rcases List.mem_cons.mp ha with rfl | ha
  · exact hn
  · exact g.2.2.1 a ha
theorem yr_iconst (X : hCx D cl cy L p s m args c cc nL tys Ts own) {n : Int} (hd : decode cc pc = .ok (.iconst n, 1)) (hn : -1 ≤ n ∧ n ≤ 5) (k : yGo η kds D cl cy L Θ nL p l e R s m args below meth c Q (pc + 1) (P)) : yGo η kds D cl cy L Θ nL p l e R s m args below meth c Q (pc) (yCst 0 n P) :=
  yr_cst (y_i (by omega) (by omega)) (fun _ _ _ _ w => lv_iconst X.1 X.2.1 hd rfl w) k
theorem yr_bipush (X : hCx D cl cy L p s m args c cc nL tys Ts own) {n : Int} (hd : decode cc pc = .ok (.bipush n, 2)) (hn : -128 ≤ n ∧ n ≤ 127) (k : yGo η kds D cl cy L Θ nL p l e R s m args below meth c Q (pc + 2) (P)) : yGo η kds D cl cy L Θ nL p l e R s m args below meth c Q (pc) (yCst 0 n P) :=
  yr_cst (y_i (by omega) (by omega)) (fun _ _ _ _ w => lv_bipush X.1 X.2.1 hd (z_b8 hn.1 hn.2) w) k
theorem yr_sipush (X : hCx D cl cy L p s m args c cc nL tys Ts own) {n : Int} (hd : decode cc pc = .ok (.sipush n, 3)) (hn : -32768 ≤ n ∧ n ≤ 32767) (k : yGo η kds D cl cy L Θ nL p l e R s m args below meth c Q (pc + 3) (P)) : yGo η kds D cl cy L Θ nL p l e R s m args below meth c Q (pc) (yCst 0 n P) :=
  yr_cst (y_i (by omega) (by omega)) (fun _ _ _ _ w => lv_sipush X.1 X.2.1 hd (z_b16 hn.1 hn.2) w) k
theorem yr_lconst (X : hCx D cl cy L p s m args c cc nL tys Ts own) {n : Fin 2} {v : Int} (hv : (n.val : Int) = v) (hd : decode cc pc = .ok (.lconst n, 1)) (k : yGo η kds D cl cy L Θ nL p l e R s m args below meth c Q (pc + 1) (P)) : yGo η kds D cl cy L Θ nL p l e R s m args below meth c Q (pc) (yCst 1 v P) := by
  subst hv
  exact yr_cst (by unfold yok; rw [if_pos (by simp)]; show _ ∧ _; have := n.isLt; omega) (fun _ _ _ _ w => lv_lconst X.1 X.2.1 hd Int64.ofInt_eq_ofNat.symm w) k
theorem yr_ldc2 (X : hCx D cl cy L p s m args c cc nL tys Ts own) {i : Nat} {n : Int} (hd : decode cc pc = .ok (.ldc2_w i, 3)) (hc : Cond.constantLong own i (Int64.ofInt n) ∈ Ts) (hn : -9223372036854775808 ≤ n ∧ n ≤ 9223372036854775807) (k : yGo η kds D cl cy L Θ nL p l e R s m args below meth c Q (pc + 3) (P)) : yGo η kds D cl cy L Θ nL p l e R s m args below meth c Q (pc) (yCst 1 n P) :=
  yr_cst (by unfold yok; rw [if_pos (by simp)]; exact hn) (fun _ _ _ _ w => lv_ldc2 X.1 X.2.1 X.2.2.2.2.1 (X.2.2.2.1 _ hc) hd w) k
theorem yr_null (X : hCx D cl cy L p s m args c cc nL tys Ts own) (hd : decode cc pc = .ok (.aconst_null, 1)) (k : yGo η kds D cl cy L Θ nL p l e R s m args below meth c Q (pc + 1) (P)) : yGo η kds D cl cy L Θ nL p l e R s m args below meth c Q (pc) (yCst 2 (-1) P) :=
  yr_cst (by unfold yok; rw [if_pos (by simp)]; exact Or.inl rfl) (fun _ _ _ _ w => lv_null X.1 X.2.1 hd w) k
/-- a local comes on the stack -/
theorem yr_ld0 {i t len : Nat} (hw : ∀ (a : yV) (H : Heap) (locs : List Loc) (ls : Array Slot) (rest : List Value), a.1 = t → yok Θ a → ls[i]? = some (.val (yvo η a)) → W p l e R s m args below meth c H locs 0 0 Q (F0 m (pc + len) ls (yvo η a :: rest)) → W p l e R s m args below meth c H locs 0 0 Q (F0 m pc ls rest)) (k : yGo η kds D cl cy L Θ nL p l e R s m args below meth c Q (pc + len) (P)) : yGo η kds D cl cy L Θ nL p l e R s m args below meth c Q (pc) (yLd i t P) := by
  intro loc st h H locs ls hp g
  unfold yLd at hp
  split at hp
  · rename_i a ha
    have hm := y_fm ha
    refine hw a H locs ls _ hp.1 (g.1 _ hm) (g.2.1.2.2 (i, yvo η a) (List.mem_map.mpr ⟨(i, a), hm, rfl⟩)) (k loc (a :: st) h H locs ls hp.2 (yg_st g ?_))
    intro b hb
    rcases List.mem_cons.mp hb with rfl | hb
    · exact g.1 _ hm
    · exact g.2.2.1 b hb
  · exact hp.elim
theorem yr_iload (X : hCx D cl cy L p s m args c cc nL tys Ts own) {i : Nat} (hd : decode cc pc = .ok (.iload i, 2)) (k : yGo η kds D cl cy L Θ nL p l e R s m args below meth c Q (pc + 2) (P)) : yGo η kds D cl cy L Θ nL p l e R s m args below meth c Q (pc) (yLd i 0 P) :=
  yr_ld0 (fun a H locs ls rest ht ha hl w => by
    obtain ⟨x, hx, -⟩ := y_int (η := η) ha ht
    rw [hx] at hl w
    exact lv_iload X.1 X.2.1 hd hl w) k
theorem yr_iload_n (X : hCx D cl cy L p s m args c cc nL tys Ts own) {kf : Fin 4} {i : Nat} (hkf : kf.val = i) (hd : decode cc pc = .ok (.iload_n kf, 1)) (k : yGo η kds D cl cy L Θ nL p l e R s m args below meth c Q (pc + 1) (P)) : yGo η kds D cl cy L Θ nL p l e R s m args below meth c Q (pc) (yLd i 0 P) :=
  yr_ld0 (fun a H locs ls rest ht ha hl w => by
    obtain ⟨x, hx, -⟩ := y_int (η := η) ha ht
    rw [hx] at hl w
    exact lv_iload_n X.1 X.2.1 hd hkf hl w) k
theorem yr_lload (X : hCx D cl cy L p s m args c cc nL tys Ts own) {i : Nat} (hd : decode cc pc = .ok (.lload i, 2)) (k : yGo η kds D cl cy L Θ nL p l e R s m args below meth c Q (pc + 2) (P)) : yGo η kds D cl cy L Θ nL p l e R s m args below meth c Q (pc) (yLd i 1 P) :=
  yr_ld0 (fun a H locs ls rest ht ha hl w => by
    obtain ⟨x, hx, -⟩ := y_long (η := η) ha ht
    rw [hx] at hl w
    exact lv_lload X.1 X.2.1 hd hl w) k
theorem yr_lload_n (X : hCx D cl cy L p s m args c cc nL tys Ts own) {kf : Fin 4} {i : Nat} (hkf : kf.val = i) (hd : decode cc pc = .ok (.lload_n kf, 1)) (k : yGo η kds D cl cy L Θ nL p l e R s m args below meth c Q (pc + 1) (P)) : yGo η kds D cl cy L Θ nL p l e R s m args below meth c Q (pc) (yLd i 1 P) :=
  yr_ld0 (fun a H locs ls rest ht ha hl w => by
    obtain ⟨x, hx, -⟩ := y_long (η := η) ha ht
    rw [hx] at hl w
    exact lv_lload_n X.1 X.2.1 hd hkf hl w) k
theorem yr_aload (X : hCx D cl cy L p s m args c cc nL tys Ts own) {i t : Nat} (ht2 : 2 ≤ t) (hd : decode cc pc = .ok (.aload i, 2)) (k : yGo η kds D cl cy L Θ nL p l e R s m args below meth c Q (pc + 2) (P)) : yGo η kds D cl cy L Θ nL p l e R s m args below meth c Q (pc) (yLd i t P) :=
  yr_ld0 (fun a H locs ls rest ht ha hl w => by
    rcases y_nul (η := η) ha (by omega) with ⟨-, hx⟩ | ⟨-, hx⟩
    · rw [hx] at hl w
      exact lv_aloadN X.1 X.2.1 hd hl w
    · rw [hx] at hl w
      exact lv_aload X.1 X.2.1 hd hl w) k
theorem yr_aload_n (X : hCx D cl cy L p s m args c cc nL tys Ts own) {kf : Fin 4} {i : Nat} (hkf : kf.val = i) {t : Nat} (ht2 : 2 ≤ t) (hd : decode cc pc = .ok (.aload_n kf, 1)) (k : yGo η kds D cl cy L Θ nL p l e R s m args below meth c Q (pc + 1) (P)) : yGo η kds D cl cy L Θ nL p l e R s m args below meth c Q (pc) (yLd i t P) :=
  yr_ld0 (fun a H locs ls rest ht ha hl w => by
    rcases y_nul (η := η) ha (by omega) with ⟨-, hx⟩ | ⟨-, hx⟩
    · rw [hx] at hl w
      exact lv_aload_nN X.1 X.2.1 hd hkf hl w
    · rw [hx] at hl w
      exact lv_aload_n X.1 X.2.1 hd hkf hl w) k
/-- the top goes into a local -/
theorem yr_st0 {i t len : Nat} (hw : ∀ (a : yV) (H : Heap) (locs : List Loc) (ls : Array Slot) (rest : List Value) (lv : List (Nat × Value)), a.1 = t → yok Θ a → lv_has ls nL lv → (∀ ls' : Array Slot, lv_has ls' nL ((i, yvo η a) :: lv.filter (fun q => !(q.1 == i) && !(q.1 + 1 == i && q.2.category == 2))) → W p l e R s m args below meth c H locs 0 0 Q (F0 m (pc + len) ls' rest)) → W p l e R s m args below meth c H locs 0 0 Q (F0 m pc ls (yvo η a :: rest))) (k : yGo η kds D cl cy L Θ nL p l e R s m args below meth c Q (pc + len) (P)) : yGo η kds D cl cy L Θ nL p l e R s m args below meth c Q (pc) (ySt i t P) := by
  intro loc st h H locs ls hp g
  unfold ySt at hp
  split at hp
  · rename_i a st'
    have ha := g.2.2.1 a List.mem_cons_self
    rw [List.map_cons]
    refine hw a H locs ls _ _ hp.1 ha g.2.1 (fun ls' hl' => ?_)
    rw [y_pmap] at hl'
    exact k _ st' h H locs ls' hp.2 ⟨y_pm (Pr := yok Θ) g.1 ha, hl', fun b hb => g.2.2.1 b (List.mem_cons_of_mem _ hb), g.2.2.2.1, g.2.2.2.2⟩
  · exact hp.elim
theorem yr_istore (X : hCx D cl cy L p s m args c cc nL tys Ts own) {i : Nat} (hi : i < nL) (hd : decode cc pc = .ok (.istore i, 2)) (k : yGo η kds D cl cy L Θ nL p l e R s m args below meth c Q (pc + 2) (P)) : yGo η kds D cl cy L Θ nL p l e R s m args below meth c Q (pc) (ySt i 0 P) :=
  yr_st0 (fun a H locs ls rest lv ht ha hl w => by
    obtain ⟨x, hx, -⟩ := y_int (η := η) ha ht
    rw [hx] at w ⊢
    exact lv_istore X.1 X.2.1 hd hl hi rfl w) k
theorem yr_istore_n (X : hCx D cl cy L p s m args c cc nL tys Ts own) {kf : Fin 4} {i : Nat} (hkf : kf.val = i) (hi : i < nL) (hd : decode cc pc = .ok (.istore_n kf, 1)) (k : yGo η kds D cl cy L Θ nL p l e R s m args below meth c Q (pc + 1) (P)) : yGo η kds D cl cy L Θ nL p l e R s m args below meth c Q (pc) (ySt i 0 P) :=
  yr_st0 (fun a H locs ls rest lv ht ha hl w => by
    obtain ⟨x, hx, -⟩ := y_int (η := η) ha ht
    rw [hx] at w ⊢
    exact lv_istore_n X.1 X.2.1 hd hkf hl hi rfl w) k
theorem yr_astore (X : hCx D cl cy L p s m args c cc nL tys Ts own) {i t : Nat} (ht2 : 2 ≤ t) (hi : i < nL) (hd : decode cc pc = .ok (.astore i, 2)) (k : yGo η kds D cl cy L Θ nL p l e R s m args below meth c Q (pc + 2) (P)) : yGo η kds D cl cy L Θ nL p l e R s m args below meth c Q (pc) (ySt i t P) :=
  yr_st0 (fun a H locs ls rest lv ht ha hl w => by
    rcases y_nul (η := η) ha (by omega) with ⟨-, hx⟩ | ⟨-, hx⟩
    · rw [hx] at w ⊢
      exact lv_astoreN X.1 X.2.1 hd hl hi rfl w
    · rw [hx] at w ⊢
      exact lv_astore X.1 X.2.1 hd hl hi rfl w) k
theorem yr_astore_n (X : hCx D cl cy L p s m args c cc nL tys Ts own) {kf : Fin 4} {i : Nat} (hkf : kf.val = i) {t : Nat} (ht2 : 2 ≤ t) (hi : i < nL) (hd : decode cc pc = .ok (.astore_n kf, 1)) (k : yGo η kds D cl cy L Θ nL p l e R s m args below meth c Q (pc + 1) (P)) : yGo η kds D cl cy L Θ nL p l e R s m args below meth c Q (pc) (ySt i t P) :=
  yr_st0 (fun a H locs ls rest lv ht ha hl w => by
    rcases y_nul (η := η) ha (by omega) with ⟨-, hx⟩ | ⟨-, hx⟩
    · rw [hx] at w ⊢
      exact lv_astore_nN X.1 X.2.1 hd hkf hl hi rfl w
    · rw [hx] at w ⊢
      exact lv_astore_n X.1 X.2.1 hd hkf hl hi rfl w) k
theorem yr_inc (X : hCx D cl cy L p s m args c cc nL tys Ts own) {i : Nat} {n : Int} (hi : i < nL) (hn : -32768 ≤ n ∧ n ≤ 32767) (hd : decode cc pc = .ok (.iinc i n, 3)) (k : yGo η kds D cl cy L Θ nL p l e R s m args below meth c Q (pc + 3) (P)) : yGo η kds D cl cy L Θ nL p l e R s m args below meth c Q (pc) (yInc i n P) := by
  intro loc st h H locs ls hp g
  unfold yInc at hp
  split at hp
  · rename_i a ha
    obtain ⟨h1, h2, h3⟩ := hp
    have hm := y_fm ha
    obtain ⟨x, ex, hx⟩ := y_int (η := η) (g.1 _ hm) h1
    have hx : x.toInt = a.2 := hx
    obtain ⟨j, hj⟩ := List.getElem?_of_mem (List.mem_map.mpr ⟨(i, a), hm, rfl⟩ : (i, yvo η a) ∈ loc.map fun q => (q.1, yvo η q.2))
    rw [ex] at hj
    have hy : (Int32.ofInt n).toInt = n := z_toi (by omega) (by omega)
    have es : (x + Int32.ofInt n).toInt = a.2 + n := by rw [z_add (by rw [hx, hy]; omega) (by rw [hx, hy]; omega), hx, hy]
    have ev : yvo η (0, a.2 + n) = .int (x + Int32.ofInt n) := by
      show Value.int (Int32.ofInt (a.2 + n)) = _
      rw [← es, z_ofi]
    refine lv_iinc (v := x + Int32.ofInt n) X.1 X.2.1 hd g.2.1 hj rfl hi rfl (fun ls' hl' => ?_)
    rw [← ev, y_pmap] at hl'
    exact k _ st h H locs ls' h3 ⟨y_pm (Pr := yok Θ) g.1 (y_i (by omega) (by omega)), hl', g.2.2.1, g.2.2.2.1, g.2.2.2.2⟩
  · exact hp.elim
/-- two numbers give one -/
theorem yr_bin {st' : List yV} {loc : yL} {h : yH} {H : Heap} {locs : List Loc} {ls : Array Slot} {a b : yV} {v : Int} {pc' : Nat} (ga : yG η kds D cl cy L Θ s.heap nL loc (b :: a :: st') h H locs ls) (hv : yok Θ (0, v)) (hp : P loc ((0, v) :: st') h) (k : yGo η kds D cl cy L Θ nL p l e R s m args below meth c Q (pc') (P)) : W p l e R s m args below meth c H locs 0 0 Q (F0 m pc' ls (yvo η (0, v) :: st'.map (yvo η))) := by
  refine k loc ((0, v) :: st') h H locs ls hp (yg_st ga ?_)
  intro q hq
  rcases List.mem_cons.mp hq with rfl | hq
  · exact hv
  · exact ga.2.2.1 q (List.mem_cons_of_mem _ (List.mem_cons_of_mem _ hq))
theorem y_vi {v : Int} {x : Int32} (h : x.toInt = v) : yvo η (0, v) = .int x := by
  show Value.int (Int32.ofInt v) = _
  rw [← h, z_ofi]
theorem y_vl {v : Int} {x : Int64} (h : x.toInt = v) : yvo η (1, v) = .long x := by
  show Value.long (Int64.ofInt v) = _
  rw [← h, z_ofi64]
theorem yr_add (X : hCx D cl cy L p s m args c cc nL tys Ts own) (hd : decode cc pc = .ok (.iadd, 1)) (k : yGo η kds D cl cy L Θ nL p l e R s m args below meth c Q (pc + 1) (P)) : yGo η kds D cl cy L Θ nL p l e R s m args below meth c Q (pc) (yAdd P) := by
  intro loc st h H locs ls hp g
  unfold yAdd at hp
  split at hp
  · rename_i b a st'
    obtain ⟨⟨h1, h2⟩, h3, h4⟩ := hp
    obtain ⟨x, ex, hx⟩ := y_int (η := η) (g.2.2.1 a (List.mem_cons_of_mem _ List.mem_cons_self)) h1
    obtain ⟨y, ey, hy⟩ := y_int (η := η) (g.2.2.1 b List.mem_cons_self) h2
    have es : (x + y).toInt = a.2 + b.2 := by rw [z_add (by rw [hx, hy]; omega) (by rw [hx, hy]; omega), hx, hy]
    have w := yr_bin g (y_i (Θ := Θ) (by omega) (by omega)) h4 k
    rw [y_vi es] at w
    rw [List.map_cons, List.map_cons, ex, ey]
    exact lv_iadd X.1 X.2.1 hd w
  · exact hp.elim
theorem yr_sub (X : hCx D cl cy L p s m args c cc nL tys Ts own) (hd : decode cc pc = .ok (.isub, 1)) (k : yGo η kds D cl cy L Θ nL p l e R s m args below meth c Q (pc + 1) (P)) : yGo η kds D cl cy L Θ nL p l e R s m args below meth c Q (pc) (ySub P) := by
  intro loc st h H locs ls hp g
  unfold ySub at hp
  split at hp
  · rename_i b a st'
    obtain ⟨⟨h1, h2⟩, h3, h4⟩ := hp
    obtain ⟨x, ex, hx⟩ := y_int (η := η) (g.2.2.1 a (List.mem_cons_of_mem _ List.mem_cons_self)) h1
    obtain ⟨y, ey, hy⟩ := y_int (η := η) (g.2.2.1 b List.mem_cons_self) h2
    have es : (x - y).toInt = a.2 - b.2 := by rw [z_sub (by rw [hx, hy]; omega) (by rw [hx, hy]; omega), hx, hy]
    have w := yr_bin g (y_i (Θ := Θ) (by omega) (by omega)) h4 k
    rw [y_vi es] at w
    rw [List.map_cons, List.map_cons, ex, ey]
    exact lv_isub X.1 X.2.1 hd w
  · exact hp.elim
theorem yr_mul (X : hCx D cl cy L p s m args c cc nL tys Ts own) (hd : decode cc pc = .ok (.imul, 1)) (k : yGo η kds D cl cy L Θ nL p l e R s m args below meth c Q (pc + 1) (P)) : yGo η kds D cl cy L Θ nL p l e R s m args below meth c Q (pc) (yMul P) := by
  intro loc st h H locs ls hp g
  unfold yMul at hp
  split at hp
  · rename_i b a st'
    obtain ⟨⟨h1, h2⟩, h3, h4⟩ := hp
    obtain ⟨x, ex, hx⟩ := y_int (η := η) (g.2.2.1 a (List.mem_cons_of_mem _ List.mem_cons_self)) h1
    obtain ⟨y, ey, hy⟩ := y_int (η := η) (g.2.2.1 b List.mem_cons_self) h2
    have es : (x * y).toInt = a.2 * b.2 := by rw [z_mul (by rw [hx, hy]; exact h3.1) (by rw [hx, hy]; exact h3.2), hx, hy]
    have w := yr_bin g (y_i (Θ := Θ) h3.1 h3.2) h4 k
    rw [y_vi es] at w
    rw [List.map_cons, List.map_cons, ex, ey]
    exact lv_imul X.1 X.2.1 hd w
  · exact hp.elim
theorem yr_ari {op : Nat} (hw : ∀ (x y : Int32) (H : Heap) (locs : List Loc) (ls : Array Slot) (rest : List Value), W p l e R s m args below meth c H locs 0 0 Q (F0 m (pc + 1) ls (.int (zsem op x y) :: rest)) → W p l e R s m args below meth c H locs 0 0 Q (F0 m pc ls (.int y :: .int x :: rest))) (k : yGo η kds D cl cy L Θ nL p l e R s m args below meth c Q (pc + 1) (P)) : yGo η kds D cl cy L Θ nL p l e R s m args below meth c Q (pc) (yAri op P) := by
  intro loc st h H locs ls hp g
  unfold yAri at hp
  split at hp
  · rename_i b a st'
    obtain ⟨⟨h1, h2⟩, h4⟩ := hp
    obtain ⟨x, ex, hx⟩ := y_int (η := η) (g.2.2.1 a (List.mem_cons_of_mem _ List.mem_cons_self)) h1
    obtain ⟨y, ey, hy⟩ := y_int (η := η) (g.2.2.1 b List.mem_cons_self) h2
    have es : (zsem op x y).toInt = yari op a.2 b.2 := by
      unfold yari
      rw [← hx, ← hy, z_ofi, z_ofi]
    have w := yr_bin g (y_i0 Θ (zsem op (Int32.ofInt a.2) (Int32.ofInt b.2))) h4 k
    rw [show (0, (zsem op (Int32.ofInt a.2) (Int32.ofInt b.2)).toInt) = ((0, yari op a.2 b.2) : yV) from rfl, y_vi es] at w
    rw [List.map_cons, List.map_cons, ex, ey]
    exact hw x y H locs ls _ w
  · exact hp.elim
theorem yr_shl (X : hCx D cl cy L p s m args c cc nL tys Ts own) (hd : decode cc pc = .ok (.ishl, 1)) (k : yGo η kds D cl cy L Θ nL p l e R s m args below meth c Q (pc + 1) (P)) : yGo η kds D cl cy L Θ nL p l e R s m args below meth c Q (pc) (yAri 5 P) := yr_ari (fun _ _ _ _ _ _ w => lv_ishl X.1 X.2.1 hd w) k
theorem yr_shr (X : hCx D cl cy L p s m args c cc nL tys Ts own) (hd : decode cc pc = .ok (.ishr, 1)) (k : yGo η kds D cl cy L Θ nL p l e R s m args below meth c Q (pc + 1) (P)) : yGo η kds D cl cy L Θ nL p l e R s m args below meth c Q (pc) (yAri 6 P) := yr_ari (fun _ _ _ _ _ _ w => lv_ishr X.1 X.2.1 hd w) k
theorem yr_and (X : hCx D cl cy L p s m args c cc nL tys Ts own) (hd : decode cc pc = .ok (.iand, 1)) (k : yGo η kds D cl cy L Θ nL p l e R s m args below meth c Q (pc + 1) (P)) : yGo η kds D cl cy L Θ nL p l e R s m args below meth c Q (pc) (yAri 7 P) := yr_ari (fun _ _ _ _ _ _ w => lv_iand X.1 X.2.1 hd w) k
theorem yr_or (X : hCx D cl cy L p s m args c cc nL tys Ts own) (hd : decode cc pc = .ok (.ior, 1)) (k : yGo η kds D cl cy L Θ nL p l e R s m args below meth c Q (pc + 1) (P)) : yGo η kds D cl cy L Θ nL p l e R s m args below meth c Q (pc) (yAri 8 P) := yr_ari (fun _ _ _ _ _ _ w => lv_ior X.1 X.2.1 hd w) k
theorem yr_ushr (X : hCx D cl cy L p s m args c cc nL tys Ts own) (hd : decode cc pc = .ok (.iushr, 1)) (k : yGo η kds D cl cy L Θ nL p l e R s m args below meth c Q (pc + 1) (P)) : yGo η kds D cl cy L Θ nL p l e R s m args below meth c Q (pc) (yUshr P) := by
  intro loc st h H locs ls hp g
  unfold yUshr at hp
  split at hp
  · rename_i b a st'
    obtain ⟨⟨h1, h2⟩, h4⟩ := hp
    obtain ⟨x, ex, hx⟩ := y_int (η := η) (g.2.2.1 a (List.mem_cons_of_mem _ List.mem_cons_self)) h1
    obtain ⟨y, ey, hy⟩ := y_int (η := η) (g.2.2.1 b List.mem_cons_self) h2
    have es : ((x.toUInt32 >>> (y.toUInt32 &&& Int32.toUInt32 31)).toInt32).toInt = yushr a.2 b.2 := by
      unfold yushr
      rw [← hx, ← hy, z_ofi, z_ofi]
    have w := yr_bin g (by rw [← es]; exact y_i0 Θ _) h4 k
    rw [y_vi es] at w
    rw [List.map_cons, List.map_cons, ex, ey]
    exact lv_iushr X.1 X.2.1 hd rfl w
  · exact hp.elim
theorem yr_un {t : Nat} {st' : List yV} {loc : yL} {h : yH} {H : Heap} {locs : List Loc} {ls : Array Slot} {a : yV} {v : Int} {pc' : Nat} (ga : yG η kds D cl cy L Θ s.heap nL loc (a :: st') h H locs ls) (hv : yok Θ (t, v)) (hp : P loc ((t, v) :: st') h) (k : yGo η kds D cl cy L Θ nL p l e R s m args below meth c Q (pc') (P)) : W p l e R s m args below meth c H locs 0 0 Q (F0 m pc' ls (yvo η (t, v) :: st'.map (yvo η))) := by
  refine k loc ((t, v) :: st') h H locs ls hp (yg_st ga ?_)
  intro q hq
  rcases List.mem_cons.mp hq with rfl | hq
  · exact hv
  · exact ga.2.2.1 q (List.mem_cons_of_mem _ hq)
theorem yr_i2b (X : hCx D cl cy L p s m args c cc nL tys Ts own) (hd : decode cc pc = .ok (.i2b, 1)) (k : yGo η kds D cl cy L Θ nL p l e R s m args below meth c Q (pc + 1) (P)) : yGo η kds D cl cy L Θ nL p l e R s m args below meth c Q (pc) (yI2b P) := by
  intro loc st h H locs ls hp g
  unfold yI2b at hp
  split at hp
  · rename_i a st'
    obtain ⟨h1, h4⟩ := hp
    obtain ⟨x, ex, hx⟩ := y_int (η := η) (g.2.2.1 a List.mem_cons_self) h1
    have es : (x.toInt8.toInt32).toInt = yi2b a.2 := by
      unfold yi2b
      rw [← hx, z_ofi]
    have w := yr_un g (by rw [← es]; exact y_i0 Θ _) h4 k
    rw [y_vi es] at w
    rw [List.map_cons, ex]
    exact lv_i2b X.1 X.2.1 hd rfl w
  · exact hp.elim
theorem yr_i2l (X : hCx D cl cy L p s m args c cc nL tys Ts own) (hd : decode cc pc = .ok (.i2l, 1)) (k : yGo η kds D cl cy L Θ nL p l e R s m args below meth c Q (pc + 1) (P)) : yGo η kds D cl cy L Θ nL p l e R s m args below meth c Q (pc) (yI2l P) := by
  intro loc st h H locs ls hp g
  unfold yI2l at hp
  split at hp
  · rename_i a st'
    obtain ⟨h1, h4⟩ := hp
    obtain ⟨x, ex, hx⟩ := y_int (η := η) (g.2.2.1 a List.mem_cons_self) h1
    have b1 := z_lo x
    have b2 := z_hi x
    have w := yr_un g (t := 1) (by unfold yok; rw [if_pos (by simp)]; show _ ∧ _; omega) h4 k
    have ev : yvo η (1, a.2) = .long x.toInt64 := by
      show Value.long (Int64.ofInt a.2) = _
      rw [← hx]
      congr 1
    rw [ev] at w
    rw [List.map_cons, ex]
    exact lv_i2l X.1 X.2.1 hd rfl w
  · exact hp.elim
theorem yr_lor (X : hCx D cl cy L p s m args c cc nL tys Ts own) (hd : decode cc pc = .ok (.lor, 1)) (k : yGo η kds D cl cy L Θ nL p l e R s m args below meth c Q (pc + 1) (P)) : yGo η kds D cl cy L Θ nL p l e R s m args below meth c Q (pc) (yLor P) := by
  intro loc st h H locs ls hp g
  unfold yLor at hp
  split at hp
  · rename_i b a st'
    obtain ⟨⟨h1, h2⟩, h4⟩ := hp
    obtain ⟨x, ex, hx⟩ := y_long (η := η) (g.2.2.1 a (List.mem_cons_of_mem _ List.mem_cons_self)) h1
    obtain ⟨y, ey, hy⟩ := y_long (η := η) (g.2.2.1 b List.mem_cons_self) h2
    have es : (x ||| y).toInt = ylor a.2 b.2 := by
      unfold ylor
      rw [← hx, ← hy, z_ofi64, z_ofi64]
    have w := k loc ((1, ylor a.2 b.2) :: st') h H locs ls h4 (yg_st g (fun q hq => by
      rcases List.mem_cons.mp hq with rfl | hq
      · rw [← es]; exact y_l0 Θ _
      · exact g.2.2.1 q (List.mem_cons_of_mem _ (List.mem_cons_of_mem _ hq))))
    rw [List.map_cons, y_vl es] at w
    rw [List.map_cons, List.map_cons, ex, ey]
    exact lv_lor X.1 X.2.1 hd w
  · exact hp.elim
theorem yr_lshl (X : hCx D cl cy L p s m args c cc nL tys Ts own) (hd : decode cc pc = .ok (.lshl, 1)) (k : yGo η kds D cl cy L Θ nL p l e R s m args below meth c Q (pc + 1) (P)) : yGo η kds D cl cy L Θ nL p l e R s m args below meth c Q (pc) (yLshl P) := by
  intro loc st h H locs ls hp g
  unfold yLshl at hp
  split at hp
  · rename_i b a st'
    obtain ⟨⟨h1, h2⟩, h4⟩ := hp
    obtain ⟨x, ex, hx⟩ := y_long (η := η) (g.2.2.1 a (List.mem_cons_of_mem _ List.mem_cons_self)) h1
    obtain ⟨y, ey, hy⟩ := y_int (η := η) (g.2.2.1 b List.mem_cons_self) h2
    have es : (x <<< (y.toInt64 &&& 63)).toInt = ylshl a.2 b.2 := by
      unfold ylshl
      rw [← hx, ← hy, z_ofi64, z_ofi]
    have w := k loc ((1, ylshl a.2 b.2) :: st') h H locs ls h4 (yg_st g (fun q hq => by
      rcases List.mem_cons.mp hq with rfl | hq
      · rw [← es]; exact y_l0 Θ _
      · exact g.2.2.1 q (List.mem_cons_of_mem _ (List.mem_cons_of_mem _ hq))))
    rw [List.map_cons, y_vl es] at w
    rw [List.map_cons, List.map_cons, ex, ey]
    exact lv_lshl X.1 X.2.1 hd rfl w
  · exact hp.elim
theorem yr_dup (X : hCx D cl cy L p s m args c cc nL tys Ts own) (hd : decode cc pc = .ok (.dup, 1)) (k : yGo η kds D cl cy L Θ nL p l e R s m args below meth c Q (pc + 1) (P)) : yGo η kds D cl cy L Θ nL p l e R s m args below meth c Q (pc) (yDup P) := by
  intro loc st h H locs ls hp g
  unfold yDup at hp
  split at hp
  · rename_i a st'
    have w := k loc (a :: a :: st') h H locs ls hp.2 (yg_st g (fun q hq => by
      rcases List.mem_cons.mp hq with rfl | hq
      · exact g.2.2.1 _ List.mem_cons_self
      · exact g.2.2.1 q hq))
    rw [List.map_cons]
    exact lv_dup X.1 X.2.1 hd (y_cat1 a hp.1) w
  · exact hp.elim
theorem yr_dup2 (X : hCx D cl cy L p s m args c cc nL tys Ts own) (hd : decode cc pc = .ok (.dup2, 1)) (k : yGo η kds D cl cy L Θ nL p l e R s m args below meth c Q (pc + 1) (P)) : yGo η kds D cl cy L Θ nL p l e R s m args below meth c Q (pc) (yDup2 P) := by
  intro loc st h H locs ls hp g
  unfold yDup2 at hp
  split at hp
  · rename_i a b st'
    have w := k loc (a :: b :: a :: b :: st') h H locs ls hp.2 (yg_st g (fun q hq => by
      rcases List.mem_cons.mp hq with rfl | hq
      · exact g.2.2.1 _ List.mem_cons_self
      · rcases List.mem_cons.mp hq with rfl | hq
        · exact g.2.2.1 _ (List.mem_cons_of_mem _ List.mem_cons_self)
        · exact g.2.2.1 q hq))
    rw [List.map_cons, List.map_cons]
    exact lv_dup2_11 X.1 X.2.1 hd (y_cat1 a hp.1.1) (y_cat1 b hp.1.2) w
  · exact hp.elim
theorem yr_pop (X : hCx D cl cy L p s m args c cc nL tys Ts own) (hd : decode cc pc = .ok (.pop, 1)) (k : yGo η kds D cl cy L Θ nL p l e R s m args below meth c Q (pc + 1) (P)) : yGo η kds D cl cy L Θ nL p l e R s m args below meth c Q (pc) (yPop P) := by
  intro loc st h H locs ls hp g
  unfold yPop at hp
  split at hp
  · rename_i a st'
    have w := k loc st' h H locs ls hp.2 (yg_st g (fun q hq => g.2.2.1 q (List.mem_cons_of_mem _ hq)))
    rw [List.map_cons]
    exact lv_pop X.1 X.2.1 hd (y_cat1 a hp.1) w
  · exact hp.elim
theorem y_ev {t : Nat} {n : Int} (h1 : 2 ≤ t) : yvo η (t, n) = yvo η (t + 100000, n) := by
  obtain ⟨k, rfl⟩ : ∃ k, t = k + 2 := ⟨t - 2, by omega⟩
  rfl
theorem yr_nn (k : yGo η kds D cl cy L Θ nL p l e R s m args below meth c Q (pc) (P)) : yGo η kds D cl cy L Θ nL p l e R s m args below meth c Q (pc) (yNn Θ P) := by
  intro loc st h H locs ls hp g
  unfold yNn at hp
  split at hp
  · rename_i a st'
    obtain ⟨⟨h1, h2⟩, h3, h4⟩ := hp
    have ha := g.2.2.1 a List.mem_cons_self
    obtain ⟨t, n⟩ := a
    simp only at h1 h2 h3 h4
    have hz : zok Θ t n := by
      unfold yok at ha
      rw [if_pos h2] at ha
      exact ha
    have hΘ : Θ n.toNat = some (t - 2) := by
      rcases y_zok h1 hz with e | e
      · omega
      · exact e.2
    have ev := y_ev (η := η) (n := n) h1
    have ok := y_okn h1 h3 hΘ
    generalize t + 100000 = T at h4 ev ok
    have w := k loc ((T, n) :: st') h H locs ls (h4 hΘ) (yg_st g (fun q hq => by
      rcases List.mem_cons.mp hq with rfl | hq
      · exact ok
      · exact g.2.2.1 q (List.mem_cons_of_mem _ hq)))
    have e : ((t, n) :: st').map (yvo η) = ((T, n) :: st').map (yvo η) := congrArg (fun v => v :: st'.map (yvo η)) ev
    rw [e]
    exact w
  · exact hp.elim
theorem y_slot {K : zKD} {kk a j : Nat} {h : yH} {H : Heap} (hH : zH η kds D cl cy L Θ h H) (hΘ : Θ a = some kk) (hK : kds[kk]? = some K) (hj : j < K.2.2.1) (h9 : (zty K j).1 < 100002) : yok Θ (ytag (zty K j), h a j) := by
  obtain ⟨b1, b2, b3⟩ := zH_in hH hΘ hK hj
  generalize zty K j = tt at b1 b2 b3 h9
  obtain ⟨t, lo, hi⟩ := tt
  unfold ytag yok
  simp only at b1 b2 b3 h9 ⊢
  by_cases hc : 2 ≤ t ∧ 0 ≤ lo
  · rw [if_pos hc]
    rw [if_neg (by omega)]
    rcases y_zok hc.1 b1 with b1 | b1
    · omega
    · exact ⟨b1.1, b1.2.trans (congrArg some (by omega))⟩
  · rw [if_neg hc, if_pos h9]
    exact b1
theorem y_svo {K : zKD} {j : Nat} {x : Int} : yvo η (ytag (zty K j), x) = zdec η (zty K j).1 x := by
  generalize zty K j = tt
  obtain ⟨t, lo, hi⟩ := tt
  unfold ytag yvo
  simp only
  split
  · rename_i hc
    match t, hc.1 with
    | t + 2, _ => rfl
  · rfl
end YRW
end
section
variable {η : zRn}
/-! rows of the heap, of jumps, of ends -/
/-- what is said of a field: its class, its tag, its bounds -/
def yfd (kds : List zKD) (kk j ci t : Nat) (lo hi : Int) : Bool := match kds[kk]? with
  | some K => decide (K.1 = 0) && decide (K.2.1 = ci) && decide (j < K.2.2.1) && decide ((zty K j).1 < 100002) && decide (ytag (zty K j) = t) && decide ((zty K j).2.1 = lo) && decide ((zty K j).2.2 = hi)
  | none => false
theorem y_fd {kds : List zKD} {kk j ci t : Nat} {lo hi : Int} (h : yfd kds kk j ci t lo hi = true) : ∃ K, kds[kk]? = some K ∧ (K.1 = 0 ∧ K.2.1 = ci) ∧ j < K.2.2.1 ∧ (zty K j).1 < 100002 ∧ ytag (zty K j) = t ∧ (zty K j).2.1 = lo ∧ (zty K j).2.2 = hi := by
  unfold yfd at h
  split at h
  · rename_i K hK
    simp only [Bool.and_eq_true, decide_eq_true_eq] at h
    obtain ⟨⟨⟨⟨⟨⟨h1, h2⟩, h3⟩, h4⟩, h5⟩, h6⟩, h7⟩ := h
    exact ⟨K, hK, ⟨h1, h2⟩, h3, h4, h5, h6, h7⟩
  · cases h
/-- an array of numbers: its type, its length; all its elements between the same bounds -/
def yad (kds : List zKD) (kk ty n : Nat) (lo hi : Int) : Bool := match kds[kk]? with
  | some K => decide (K.1 = 1) && decide (K.2.1 = ty) && decide (K.2.2.1 = n) && decide (K.2.2.2 = [(0, lo, hi)]) && decide (ty = 0 ∨ (ty = 1 ∧ -128 ≤ lo ∧ hi ≤ 127) ∨ (ty = 2 ∧ 0 ≤ lo ∧ hi ≤ 1)) && decide (-2147483648 ≤ lo) && decide (hi ≤ 2147483647)
  | none => false
theorem y_ad {kds : List zKD} {kk ty n : Nat} {lo hi : Int} (h : yad kds kk ty n lo hi = true) : ∃ K, kds[kk]? = some K ∧ (K.1 = 1 ∧ K.2.1 = ty) ∧ K.2.2.1 = n ∧ (∀ j, zty K j = (0, lo, hi)) ∧ (ty = 0 ∨ (ty = 1 ∧ -128 ≤ lo ∧ hi ≤ 127) ∨ (ty = 2 ∧ 0 ≤ lo ∧ hi ≤ 1)) ∧ -2147483648 ≤ lo ∧ hi ≤ 2147483647 := by
  unfold yad at h
  split at h
  · rename_i K hK
    simp only [Bool.and_eq_true, decide_eq_true_eq] at h
    obtain ⟨⟨⟨⟨⟨⟨h1, h2⟩, h3⟩, h4⟩, h5⟩, h6⟩, h7⟩ := h
    refine ⟨K, hK, ⟨h1, h2⟩, h3, fun j => ?_, h5, h6, h7⟩
    unfold zty
    rw [h4]
    simp [Nat.mod_one]
  · cases h
/-- an array of ints with bounds of their own for each place -/
def yak (kds : List zKD) (kk n : Nat) (K : zKD) : Prop := kds[kk]? = some K ∧ (K.1 = 1 ∧ K.2.1 = 0) ∧ K.2.2.1 = n ∧ ∀ j, j < n → (zty K j).1 = 0
/-- an array of references -/
def yqd (kds : List zKD) (kk n t : Nat) : Bool := match kds[kk]? with
  | some K => decide (K.1 = 2) && decide (3 ≤ K.2.1 ∧ K.2.1 ≤ 6) && decide (K.2.2.1 = n) && (List.range n).all (fun j => decide (ytag (zty K j) = t) && decide ((zty K j).1 < 100002) && decide (2 ≤ (zty K j).1))
  | none => false
section YRH
variable {kds : List zKD} {D : va_G} {cl : List vw_C} {cy : Nat → ClassId} {L : List Nat} {Θ : Nat → Option Nat} {nL : Nat}
variable {p : Program} {l : Launch} {e : Env} {R : Room} {s : State} {m : MethodId} {args : Array Value} {below : List Frame} {meth : Method} {c : Code} {Q : State → Prop}
variable {cc : ByteArray} {pc : Nat} {tys : List (ClassId × FieldType)} {Ts : List Cond} {own : String} {P P1 P2 : yP}
theorem yr_get (X : hCx D cl cy L p s m args c cc nL tys Ts own) {idx ci j kk t : Nat} {lo hi : Int} {o : Option FieldType} (hF : zFok own Ts cl (idx, ci, j, o)) (hk : yfd kds kk j ci t lo hi = true) (hd : decode cc pc = .ok (.getfield idx, 3)) (k : yGo η kds D cl cy L Θ nL p l e R s m args below meth c Q (pc + 3) (P)) : yGo η kds D cl cy L Θ nL p l e R s m args below meth c Q (pc) (yGet kk j t lo hi P) := by
  intro loc st h H locs ls hp g
  unfold yGet at hp
  split at hp
  · rename_i a st'
    obtain ⟨h1, h2⟩ := hp
    obtain ⟨K, e1, e2, e3, e4, e5, e6, e7⟩ := y_fd hk
    obtain ⟨a1, a2, a3⟩ := y_ref (η := η) (g.2.2.1 a List.mem_cons_self) h1
    obtain ⟨-, b2, b3⟩ := zH_in g.2.2.2.1 a2 e1 e3
    rw [e6] at b2
    rw [e7] at b3
    have ok := y_slot g.2.2.2.1 a2 e1 e3 e4
    rw [e5] at ok
    have w := yr_un g ok (h2 b2 b3) k
    rw [← e5, y_svo] at w
    rw [List.map_cons, a3]
    exact hw_get X hF a2 e1 e2 e3 g.2.2.2.1 hd w
  · exact hp.elim
theorem yr_getP (X : hCx D cl cy L p s m args c cc nL tys Ts own) {idx ci j kk k2 : Nat} {lo hi : Int} {o : Option FieldType} (hF : zFok own Ts cl (idx, ci, j, o)) (hk : yfd kds kk j ci (k2 + 100002) lo hi = true) (hd : decode cc pc = .ok (.getfield idx, 3)) (k : yGo η kds D cl cy L Θ nL p l e R s m args below meth c Q (pc + 3) (P)) : yGo η kds D cl cy L Θ nL p l e R s m args below meth c Q (pc) (yGetP Θ kk j k2 P) := by
  intro loc st h H locs ls hp g
  unfold yGetP at hp
  split at hp
  · rename_i a st'
    obtain ⟨h1, h2⟩ := hp
    obtain ⟨K, e1, e2, e3, e4, e5, e6, e7⟩ := y_fd hk
    obtain ⟨a1, a2, a3⟩ := y_ref (η := η) (g.2.2.1 a List.mem_cons_self) h1
    have ok := y_slot g.2.2.2.1 a2 e1 e3 e4
    rw [e5] at ok
    obtain ⟨c1, c2, -⟩ := y_ref (η := η) ok rfl
    have w := yr_un g ok (h2 c1 c2) k
    rw [← e5, y_svo] at w
    rw [List.map_cons, a3]
    exact hw_get X hF a2 e1 e2 e3 g.2.2.2.1 hd w
  · exact hp.elim
theorem yr_put (X : hCx D cl cy L p s m args c cc nL tys Ts own) {idx ci j kk : Nat} {lo hi : Int} {ty : FieldType} (hF : zFok own Ts cl (idx, ci, j, some ty)) (hk : yfd kds kk j ci 0 lo hi = true) (hft : zfty ty (0, lo, hi) = true) (hd : decode cc pc = .ok (.putfield idx, 3)) (k : yGo η kds D cl cy L Θ nL p l e R s m args below meth c Q (pc + 3) (P)) : yGo η kds D cl cy L Θ nL p l e R s m args below meth c Q (pc) (yPut kk j lo hi P) := by
  intro loc st h H locs ls hp g
  unfold yPut at hp
  split at hp
  · rename_i v a st'
    obtain ⟨⟨h1, h2⟩, h3, h4⟩ := hp
    obtain ⟨K, e1, e2, e3, e4, e5, e6, e7⟩ := y_fd hk
    have gv := g.2.2.1 v List.mem_cons_self
    obtain ⟨a1, a2, a3⟩ := y_ref (η := η) (g.2.2.1 a (List.mem_cons_of_mem _ List.mem_cons_self)) h1
    have ez : zty K j = (0, lo, hi) := by
      generalize zty K j = tt at e5 e6 e7
      obtain ⟨t, x, y⟩ := tt
      simp only at e6 e7
      subst e6 e7
      unfold ytag at e5
      simp only at e5
      split at e5
      · omega
      · rw [e5]
    have ev : yvo η v = zdec η (zty K j).1 v.2 := by rw [ez]; unfold yvo; rw [h2]
    have vok : zok Θ (zty K j).1 v.2 := by
      rw [ez]
      obtain ⟨t, n⟩ := v
      simp only at h2
      subst h2
      unfold yok at gv
      rw [if_pos (by simp)] at gv
      exact gv
    rw [List.map_cons, List.map_cons, a3, ev]
    refine hw_put X hF a2 e1 e2 e3 (by rw [ez]; exact hft) ⟨vok, by rw [ez]; exact h3.1, by rw [ez]; exact h3.2⟩ g.2.2.2.1 g.2.2.2.2 hd (fun H1 locs1 hH1 hS1 => ?_)
    exact k loc st' _ H1 locs1 ls h4 ⟨g.1, g.2.1, fun q hq => g.2.2.1 q (List.mem_cons_of_mem _ (List.mem_cons_of_mem _ hq)), hH1, hS1⟩
  · exact hp.elim
/-- a field of ints, longs without bounds -/
theorem yr_put0 (X : hCx D cl cy L p s m args c cc nL tys Ts own) {idx ci j kk t : Nat} {lo hi : Int} {ty : FieldType} (hF : zFok own Ts cl (idx, ci, j, some ty)) (hk : yfd kds kk j ci t lo hi = true) (ht : (t = 0 ∧ lo = -2147483648 ∧ hi = 2147483647) ∨ (t = 1 ∧ lo = -9223372036854775808 ∧ hi = 9223372036854775807)) (hft : zfty ty (t, lo, hi) = true) (hd : decode cc pc = .ok (.putfield idx, 3)) (k : yGo η kds D cl cy L Θ nL p l e R s m args below meth c Q (pc + 3) (P)) : yGo η kds D cl cy L Θ nL p l e R s m args below meth c Q (pc) (yPut0 kk j t P) := by
  intro loc st h H locs ls hp g
  unfold yPut0 at hp
  split at hp
  · rename_i v a st'
    obtain ⟨⟨h1, h2⟩, h4⟩ := hp
    obtain ⟨K, e1, e2, e3, e4, e5, e6, e7⟩ := y_fd hk
    have gv := g.2.2.1 v List.mem_cons_self
    obtain ⟨a1, a2, a3⟩ := y_ref (η := η) (g.2.2.1 a (List.mem_cons_of_mem _ List.mem_cons_self)) h1
    have ez : zty K j = (t, lo, hi) := by
      generalize zty K j = tt at e5 e6 e7
      obtain ⟨t', x, y⟩ := tt
      simp only at e6 e7
      subst e6 e7
      unfold ytag at e5
      simp only at e5
      split at e5
      · omega
      · rw [e5]
    have ev : yvo η v = zdec η (zty K j).1 v.2 := by rw [ez]; unfold yvo; rw [h2]
    have vok : zok Θ t v.2 ∧ lo ≤ v.2 ∧ v.2 ≤ hi := by
      obtain ⟨t', n⟩ := v
      simp only at h2
      subst h2
      unfold yok at gv
      rcases ht with ⟨rfl, rfl, rfl⟩ | ⟨rfl, rfl, rfl⟩
      · rw [if_pos (by simp)] at gv
        exact ⟨gv, gv⟩
      · rw [if_pos (by simp)] at gv
        exact ⟨gv, gv⟩
    rw [List.map_cons, List.map_cons, a3, ev]
    refine hw_put X hF a2 e1 e2 e3 (by rw [ez]; exact hft) (by rw [ez]; exact vok) g.2.2.2.1 g.2.2.2.2 hd (fun H1 locs1 hH1 hS1 => ?_)
    exact k loc st' _ H1 locs1 ls h4 ⟨g.1, g.2.1, fun q hq => g.2.2.1 q (List.mem_cons_of_mem _ (List.mem_cons_of_mem _ hq)), hH1, hS1⟩
  · exact hp.elim
/-- an element is read -/
theorem yr_aldK (X : hCx D cl cy L p s m args c cc nL tys Ts own) {kk n : Nat} {K : zKD} {lo hi : Nat → Int} (hK : kds[kk]? = some K) (hn : K.2.2.1 = n) (hz : ∀ j, j < n → zty K j = (0, lo j, hi j)) (hKf : (K.1 = 1 ∧ K.2.1 = 0 ∧ decode cc pc = .ok (.iaload, 1)) ∨ (K.1 = 1 ∧ (K.2.1 = 1 ∨ K.2.1 = 2) ∧ decode cc pc = .ok (.baload, 1))) (k : yGo η kds D cl cy L Θ nL p l e R s m args below meth c Q (pc + 1) (P)) : yGo η kds D cl cy L Θ nL p l e R s m args below meth c Q (pc) (yAld kk n lo hi P) := by
  intro loc st h H locs ls hp g
  unfold yAld at hp
  split at hp
  · rename_i i a st'
    obtain ⟨⟨h1, h2⟩, h3, h4⟩ := hp
    obtain ⟨a1, a2, a3⟩ := y_ref (η := η) (g.2.2.1 a (List.mem_cons_of_mem _ List.mem_cons_self)) h1
    obtain ⟨x, ex, hx⟩ := y_int (η := η) (g.2.2.1 i List.mem_cons_self) h2
    have hj : i.2.toNat < K.2.2.1 := by omega
    obtain ⟨b1, b2, b3⟩ := zH_in g.2.2.2.1 a2 hK hj
    rw [hz _ (by omega)] at b1 b2 b3
    have ok : yok Θ (0, h a.2.toNat i.2.toNat) := by
      unfold yok
      rw [if_pos (by simp)]
      exact b1
    have w := yr_bin g ok (h4 b2 b3) k
    rw [List.map_cons, List.map_cons, a3, ex]
    rw [show yvo η (0, h a.2.toNat i.2.toNat) = .int (Int32.ofInt (h a.2.toNat i.2.toNat)) from rfl, ← hx] at w
    rcases hKf with ⟨f1, f2, hd⟩ | ⟨f1, f2, hd⟩
    · exact hw_iald X a2 hK ⟨f1, f2⟩ ⟨by omega, by omega⟩ g.2.2.2.1 hd w
    · exact hw_bald X a2 hK ⟨f1, f2⟩ ⟨by omega, by omega⟩ g.2.2.2.1 hd w
  · exact hp.elim
theorem yr_iald (X : hCx D cl cy L p s m args c cc nL tys Ts own) {kk n : Nat} {lo hi : Int} (hk : yad kds kk 0 n lo hi = true) (hd : decode cc pc = .ok (.iaload, 1)) (k : yGo η kds D cl cy L Θ nL p l e R s m args below meth c Q (pc + 1) (P)) : yGo η kds D cl cy L Θ nL p l e R s m args below meth c Q (pc) (yAld kk n (fun _ => lo) (fun _ => hi) P) := by
  obtain ⟨K, e1, e2, e3, e4, -⟩ := y_ad hk
  exact yr_aldK X e1 e3 (fun j _ => e4 j) (Or.inl ⟨e2.1, e2.2, hd⟩) k
theorem yr_bald (X : hCx D cl cy L p s m args c cc nL tys Ts own) {kk ty n : Nat} {lo hi : Int} (hty : ty = 1 ∨ ty = 2) (hk : yad kds kk ty n lo hi = true) (hd : decode cc pc = .ok (.baload, 1)) (k : yGo η kds D cl cy L Θ nL p l e R s m args below meth c Q (pc + 1) (P)) : yGo η kds D cl cy L Θ nL p l e R s m args below meth c Q (pc) (yAld kk n (fun _ => lo) (fun _ => hi) P) := by
  obtain ⟨K, e1, e2, e3, e4, -⟩ := y_ad hk
  exact yr_aldK X e1 e3 (fun j _ => e4 j) (Or.inr ⟨e2.1, by rw [e2.2]; exact hty, hd⟩) k
theorem yr_ialdK (X : hCx D cl cy L p s m args c cc nL tys Ts own) {kk n : Nat} {K : zKD} (hk : yak kds kk n K) (hd : decode cc pc = .ok (.iaload, 1)) (k : yGo η kds D cl cy L Θ nL p l e R s m args below meth c Q (pc + 1) (P)) : yGo η kds D cl cy L Θ nL p l e R s m args below meth c Q (pc) (yAld kk n (fun j => (zty K j).2.1) (fun j => (zty K j).2.2) P) := by
  obtain ⟨e1, e2, e3, e4⟩ := hk
  exact yr_aldK X e1 e3 (fun j hj => by
    have := e4 j hj
    generalize zty K j = tt at this
    obtain ⟨t, x, y⟩ := tt
    simp only at this ⊢
    rw [this]) (Or.inl ⟨e2.1, e2.2, hd⟩) k
theorem yr_aldq (X : hCx D cl cy L p s m args c cc nL tys Ts own) {kk n k2 : Nat} (hk : yqd kds kk n (k2 + 100002) = true) (hd : decode cc pc = .ok (.aaload, 1)) (k : yGo η kds D cl cy L Θ nL p l e R s m args below meth c Q (pc + 1) (P)) : yGo η kds D cl cy L Θ nL p l e R s m args below meth c Q (pc) (yAldq Θ kk n k2 P) := by
  intro loc st h H locs ls hp g
  unfold yAldq at hp
  split at hp
  · rename_i i a st'
    obtain ⟨⟨h1, h2⟩, h3, h4⟩ := hp
    unfold yqd at hk
    split at hk
    · rename_i K hK
      simp only [Bool.and_eq_true, decide_eq_true_eq] at hk
      obtain ⟨⟨⟨f1, f2⟩, f3⟩, f4⟩ := hk
      have hjn : i.2.toNat < n := by omega
      have f5 := List.all_eq_true.mp f4 i.2.toNat (List.mem_range.mpr hjn)
      simp only [Bool.and_eq_true, decide_eq_true_eq] at f5
      obtain ⟨a1, a2, a3⟩ := y_ref (η := η) (g.2.2.1 a (List.mem_cons_of_mem _ List.mem_cons_self)) h1
      obtain ⟨x, ex, hx⟩ := y_int (η := η) (g.2.2.1 i List.mem_cons_self) h2
      have ok := y_slot g.2.2.2.1 a2 hK (by omega : i.2.toNat < K.2.2.1) f5.1.2
      rw [f5.1.1] at ok
      obtain ⟨c1, c2, -⟩ := y_ref (η := η) ok rfl
      have w := k loc ((k2 + 100002, h a.2.toNat i.2.toNat) :: st') h H locs ls (h4 c1 c2) (yg_st g (fun q hq => by
        rcases List.mem_cons.mp hq with rfl | hq
        · exact ok
        · exact g.2.2.1 q (List.mem_cons_of_mem _ (List.mem_cons_of_mem _ hq))))
      rw [List.map_cons, ← f5.1.1, y_svo, z_dq f5.2] at w
      obtain ⟨hexec, hb, hml, hts, hown, hKa, hT, hnd⟩ := X
      obtain ⟨q0, hq⟩ := zH_get g.2.2.2.1 a2 hK (by omega)
      rw [zE_q f1] at hq
      obtain ⟨v1, v2⟩ := z_vin (i := x) (n := K.2.2.1) (by omega) (by omega)
      obtain ⟨C, hC⟩ := hT.2.2.2 K.2.1 f2.1 f2.2
      rw [List.map_cons, List.map_cons, a3, ex]
      refine va_aldq hexec hb hKa g.2.2.2.1.1 q0 K.2.1 hq hC v1 hd ?_
      rw [v2, hx]
      exact w
    · cases hk
  · exact hp.elim
/-- an element is written -/
theorem yr_astK (X : hCx D cl cy L p s m args c cc nL tys Ts own) {kk n : Nat} {K : zKD} {lo hi : Nat → Int} (hK : kds[kk]? = some K) (hn : K.2.2.1 = n) (hz : ∀ j, j < n → zty K j = (0, lo j, hi j)) (hKf : (K.1 = 1 ∧ K.2.1 = 0 ∧ decode cc pc = .ok (.iastore, 1)) ∨ (K.1 = 1 ∧ K.2.1 = 1 ∧ (∀ j, -128 ≤ lo j ∧ hi j ≤ 127) ∧ decode cc pc = .ok (.bastore, 1)) ∨ (K.1 = 1 ∧ K.2.1 = 2 ∧ (∀ j, 0 ≤ lo j ∧ hi j ≤ 1) ∧ decode cc pc = .ok (.bastore, 1))) (k : yGo η kds D cl cy L Θ nL p l e R s m args below meth c Q (pc + 1) (P)) : yGo η kds D cl cy L Θ nL p l e R s m args below meth c Q (pc) (yAst kk n lo hi P) := by
  intro loc st h H locs ls hp g
  unfold yAst at hp
  split at hp
  · rename_i v i a st'
    obtain ⟨⟨h1, h2, h5⟩, h3, h6, h4⟩ := hp
    have gv := g.2.2.1 v List.mem_cons_self
    obtain ⟨a1, a2, a3⟩ := y_ref (η := η) (g.2.2.1 a (List.mem_cons_of_mem _ (List.mem_cons_of_mem _ List.mem_cons_self))) h1
    obtain ⟨x, ex, hx⟩ := y_int (η := η) (g.2.2.1 i (List.mem_cons_of_mem _ List.mem_cons_self)) h2
    obtain ⟨y, ey, hy⟩ := y_int (η := η) gv h5
    have hD : va_D (fun q => q ∈ L) ([] ++ va_pl L (zF η kds cy Θ h)) := z_D X.2.2.2.2.2.2.2 (fun a ha => ha)
    obtain ⟨q0, hq⟩ := zH_get g.2.2.2.1 a2 hK (by omega)
    have hq1 := hq
    have hK1 : K.1 = 1 := by rcases hKf with q | q | q <;> exact q.1
    rw [zE_i hK1] at hq1
    obtain ⟨v1, v2⟩ := z_vin (i := x) (n := K.2.2.1) (by omega) (by omega)
    have fin : ∀ (H1 : Heap) (locs1 : List Loc), va_P D cl (([] ++ va_pl L (zF η kds cy Θ h)).set q0 (η.1 a.2.toNat, .inl (cy K.2.1, K.2.2.1, .inl (upd (fun j => Int32.ofInt (h a.2.toNat j)) i.2.toNat y)))) H1 → va_S (fun q => q ∈ L) s.heap H1 locs1 → W p l e R s m args below meth c H1 locs1 0 0 Q (F0 m (pc + 1) ls (st'.map (yvo η))) := by
      intro H1 locs1 hP1 hS1
      refine k loc st' _ H1 locs1 ls h4 ⟨g.1, g.2.1, fun q hq => g.2.2.1 q (List.mem_cons_of_mem _ (List.mem_cons_of_mem _ (List.mem_cons_of_mem _ hq))), ?_, hS1⟩
      refine zH_put g.2.2.2.1 hD a2 hK (by omega) (by omega) ?_ hq ?_
      · rw [hz _ (by omega)]
        refine ⟨?_, h6.1, h6.2⟩
        rw [← hy]
        exact ⟨z_lo y, z_hi y⟩
      · rw [zE_i hK1]
        have ef : (fun j => Int32.ofInt (zup h a.2.toNat i.2.toNat v.2 a.2.toNat j)) = upd (fun j => Int32.ofInt (h a.2.toNat j)) i.2.toNat y := by
          funext j
          unfold upd
          split
          · rename_i e
            subst e
            rw [zup_at, ← hy, z_ofi]
          · rename_i e
            rw [zup_ne (fun q => e q.2)]
        rw [ef]
        exact hP1
    rw [List.map_cons, List.map_cons, List.map_cons, a3, ex, ey]
    obtain ⟨hexec, hb, hml, hts, hown, hKa, hT, hnd⟩ := X
    rcases hKf with ⟨-, e0, hd⟩ | ⟨-, e0, bb, hd⟩ | ⟨-, e0, bb, hd⟩
    · rw [e0] at hq1 fin
      refine va_iast hexec hb hKa g.2.2.2.1.1 hD g.2.2.2.2 q0 0 hq1 hT.1 v1 hd (fun H1 locs1 hP1 _ hS1 => ?_)
      rw [v2, hx] at hP1
      exact fin H1 locs1 hP1 hS1
    · rw [e0] at hq1 fin
      have b2 := bb i.2.toNat
      refine va_bast hexec hb hKa g.2.2.2.1.1 hD g.2.2.2.2 q0 1 hq1 hT.2.1 v1 hd (fun H1 locs1 hP1 _ hS1 => ?_)
      rw [v2, hx, z_narb (by omega) (by omega)] at hP1
      exact fin H1 locs1 hP1 hS1
    · rw [e0] at hq1 fin
      have b2 := bb i.2.toNat
      refine va_zast hexec hb hKa g.2.2.2.1.1 hD g.2.2.2.2 q0 2 hq1 hT.2.2.1 v1 hd (fun H1 locs1 hP1 _ hS1 => ?_)
      rw [v2, hx, z_narz (by omega) (by omega)] at hP1
      exact fin H1 locs1 hP1 hS1
  · exact hp.elim
theorem yr_iast (X : hCx D cl cy L p s m args c cc nL tys Ts own) {kk n : Nat} {lo hi : Int} (hk : yad kds kk 0 n lo hi = true) (hd : decode cc pc = .ok (.iastore, 1)) (k : yGo η kds D cl cy L Θ nL p l e R s m args below meth c Q (pc + 1) (P)) : yGo η kds D cl cy L Θ nL p l e R s m args below meth c Q (pc) (yAst kk n (fun _ => lo) (fun _ => hi) P) := by
  obtain ⟨K, e1, e2, e3, e4, -⟩ := y_ad hk
  exact yr_astK X e1 e3 (fun j _ => e4 j) (Or.inl ⟨e2.1, e2.2, hd⟩) k
theorem yr_bast (X : hCx D cl cy L p s m args c cc nL tys Ts own) {kk n : Nat} {lo hi : Int} (hk : yad kds kk 1 n lo hi = true) (hd : decode cc pc = .ok (.bastore, 1)) (k : yGo η kds D cl cy L Θ nL p l e R s m args below meth c Q (pc + 1) (P)) : yGo η kds D cl cy L Θ nL p l e R s m args below meth c Q (pc) (yAst kk n (fun _ => lo) (fun _ => hi) P) := by
  obtain ⟨K, e1, e2, e3, e4, e5, -⟩ := y_ad hk
  exact yr_astK X e1 e3 (fun j _ => e4 j) (Or.inr (Or.inl ⟨e2.1, e2.2, fun _ => by rcases e5 with q | q | q <;> omega, hd⟩)) k
theorem yr_zast (X : hCx D cl cy L p s m args c cc nL tys Ts own) {kk n : Nat} {lo hi : Int} (hk : yad kds kk 2 n lo hi = true) (hd : decode cc pc = .ok (.bastore, 1)) (k : yGo η kds D cl cy L Θ nL p l e R s m args below meth c Q (pc + 1) (P)) : yGo η kds D cl cy L Θ nL p l e R s m args below meth c Q (pc) (yAst kk n (fun _ => lo) (fun _ => hi) P) := by
  obtain ⟨K, e1, e2, e3, e4, e5, -⟩ := y_ad hk
  exact yr_astK X e1 e3 (fun j _ => e4 j) (Or.inr (Or.inr ⟨e2.1, e2.2, fun _ => by rcases e5 with q | q | q <;> omega, hd⟩)) k
theorem yr_iastK (X : hCx D cl cy L p s m args c cc nL tys Ts own) {kk n : Nat} {K : zKD} (hk : yak kds kk n K) (hd : decode cc pc = .ok (.iastore, 1)) (k : yGo η kds D cl cy L Θ nL p l e R s m args below meth c Q (pc + 1) (P)) : yGo η kds D cl cy L Θ nL p l e R s m args below meth c Q (pc) (yAst kk n (fun j => (zty K j).2.1) (fun j => (zty K j).2.2) P) := by
  obtain ⟨e1, e2, e3, e4⟩ := hk
  exact yr_astK X e1 e3 (fun j hj => by
    have := e4 j hj
    generalize zty K j = tt at this
    obtain ⟨t, x, y⟩ := tt
    simp only at this ⊢
    rw [this]) (Or.inl ⟨e2.1, e2.2, hd⟩) k
theorem yr_len (X : hCx D cl cy L p s m args c cc nL tys Ts own) {kk ty n : Nat} {lo hi : Int} (hk : yad kds kk ty n lo hi = true) (hn : n ≤ 2147483647) (hd : decode cc pc = .ok (.arraylength, 1)) (k : yGo η kds D cl cy L Θ nL p l e R s m args below meth c Q (pc + 1) (P)) : yGo η kds D cl cy L Θ nL p l e R s m args below meth c Q (pc) (yLen kk (n : Int) P) := by
  intro loc st h H locs ls hp g
  unfold yLen at hp
  split at hp
  · rename_i a st'
    obtain ⟨K, e1, e2, e3, e4, e5, -⟩ := y_ad hk
    obtain ⟨a1, a2, a3⟩ := y_ref (η := η) (g.2.2.1 a List.mem_cons_self) hp.1
    have w := yr_un g (t := 0) (y_i (Θ := Θ) (by omega) (by omega)) hp.2 k
    obtain ⟨hexec, hb, hml, hts, hown, hKa, hT, hnd⟩ := X
    obtain ⟨q0, hq⟩ := zH_get g.2.2.2.1 a2 e1 (by omega)
    rw [zE_i e2.1, e3] at hq
    have ht : ∃ t9, tys[K.2.1]? = some (cy K.2.1, t9) := by
      have : K.2.1 = 0 ∨ K.2.1 = 1 ∨ K.2.1 = 2 := by rw [e2.2]; rcases e5 with q | q | q <;> omega
      rcases this with e0 | e0 | e0 <;> rw [e0]
      · exact ⟨_, hT.1⟩
      · exact ⟨_, hT.2.1⟩
      · exact ⟨_, hT.2.2.1⟩
    obtain ⟨t9, ht⟩ := ht
    rw [List.map_cons, a3]
    exact va_alen (v := Int32.ofInt (n : Int)) hexec hb hKa g.2.2.2.1.1 q0 K.2.1 hq ht Int32.ofInt_eq_ofNat.symm hd w
  · exact hp.elim
/-- jumps -/
theorem yr_goto (X : hCx D cl cy L p s m args c cc nL tys Ts own) {off : Int} {tgt : Nat} (hd : decode cc pc = .ok (.goto off, 3)) (ht : (pc : Int) + off = (tgt : Int)) (k : yGo η kds D cl cy L Θ nL p l e R s m args below meth c Q (tgt) (P)) : yGo η kds D cl cy L Θ nL p l e R s m args below meth c Q (pc) (P) :=
  fun loc st h H locs ls hp g => lv_goto X.1 X.2.1 hd ht (k loc st h H locs ls hp g)
theorem yr_if2 (X : hCx D cl cy L p s m args c cc nL tys Ts own) {cd : Jvm.ClassFile.Cond} {off : Int} {tgt : Nat} (hd : decode cc pc = .ok (.if_icmp cd off, 3)) (ht : (pc : Int) + off = (tgt : Int)) {Pc : yP} (hc : ∀ (loc : yL) (st : List yV) (h : yH), Pc loc st h → ∃ (b a : yV) (st' : List yV), st = b :: a :: st' ∧ (a.1 = 0 ∧ b.1 = 0) ∧ (zcmp (zcn cd) a.2 b.2 → P1 loc st' h) ∧ (¬ zcmp (zcn cd) a.2 b.2 → P2 loc st' h)) (k1 : yGo η kds D cl cy L Θ nL p l e R s m args below meth c Q (tgt) (P1)) (k2 : yGo η kds D cl cy L Θ nL p l e R s m args below meth c Q (pc + 3) (P2)) : yGo η kds D cl cy L Θ nL p l e R s m args below meth c Q (pc) (Pc) := by
  intro loc st h H locs ls hp g
  obtain ⟨b, a, st', rfl, ⟨h1, h2⟩, h3, h4⟩ := hc loc st h hp
  obtain ⟨x, ex, hx⟩ := y_int (η := η) (g.2.2.1 a (List.mem_cons_of_mem _ List.mem_cons_self)) h1
  obtain ⟨y, ey, hy⟩ := y_int (η := η) (g.2.2.1 b List.mem_cons_self) h2
  have gs : ∀ q ∈ st', yok Θ q := fun q hq => g.2.2.1 q (List.mem_cons_of_mem _ (List.mem_cons_of_mem _ hq))
  rw [List.map_cons, List.map_cons, ex, ey]
  exact z_icmp X.1 X.2.1 hd ht (fun q => k1 loc st' h H locs ls (h3 (by rw [← hx, ← hy]; exact q)) (yg_st g gs)) (fun q => k2 loc st' h H locs ls (h4 (by rw [← hx, ← hy]; exact q)) (yg_st g gs))
theorem yr_if1 (X : hCx D cl cy L p s m args c cc nL tys Ts own) {cd : Jvm.ClassFile.Cond} {off : Int} {tgt : Nat} (hd : decode cc pc = .ok (.ifCond cd off, 3)) (ht : (pc : Int) + off = (tgt : Int)) {Pc : yP} (hc : ∀ (loc : yL) (st : List yV) (h : yH), Pc loc st h → ∃ (a : yV) (st' : List yV), st = a :: st' ∧ a.1 = 0 ∧ (zcmp (zcn cd) a.2 0 → P1 loc st' h) ∧ (¬ zcmp (zcn cd) a.2 0 → P2 loc st' h)) (k1 : yGo η kds D cl cy L Θ nL p l e R s m args below meth c Q (tgt) (P1)) (k2 : yGo η kds D cl cy L Θ nL p l e R s m args below meth c Q (pc + 3) (P2)) : yGo η kds D cl cy L Θ nL p l e R s m args below meth c Q (pc) (Pc) := by
  intro loc st h H locs ls hp g
  obtain ⟨a, st', rfl, h1, h3, h4⟩ := hc loc st h hp
  obtain ⟨x, ex, hx⟩ := y_int (η := η) (g.2.2.1 a List.mem_cons_self) h1
  have gs : ∀ q ∈ st', yok Θ q := fun q hq => g.2.2.1 q (List.mem_cons_of_mem _ hq)
  rw [List.map_cons, ex]
  exact z_ic0 X.1 X.2.1 hd ht (fun q => k1 loc st' h H locs ls (h3 (by rw [← hx]; exact q)) (yg_st g gs)) (fun q => k2 loc st' h H locs ls (h4 (by rw [← hx]; exact q)) (yg_st g gs))
theorem yr_lt (X : hCx D cl cy L p s m args c cc nL tys Ts own) {off : Int} {tgt : Nat} (hd : decode cc pc = .ok (.if_icmp .lt off, 3)) (ht : (pc : Int) + off = (tgt : Int)) (k1 : yGo η kds D cl cy L Θ nL p l e R s m args below meth c Q (tgt) (P1)) (k2 : yGo η kds D cl cy L Θ nL p l e R s m args below meth c Q (pc + 3) (P2)) : yGo η kds D cl cy L Θ nL p l e R s m args below meth c Q (pc) (yLt P1 P2) := by
  refine yr_if2 X hd ht (fun loc st h hp => ?_) k1 k2
  unfold yLt at hp
  split at hp
  · rename_i b a st'
    refine ⟨b, a, st', rfl, hp.1, fun q => ?_, fun q => ?_⟩
    · have h3 := hp.2
      unfold zcmp zcn at q
      simp only at q
      split at h3
      · first | exact h3 | (exfalso; omega)
      · first | exact h3 | (exfalso; omega)
    · have h3 := hp.2
      unfold zcmp zcn at q
      simp only at q
      split at h3
      · first | exact h3 | (exfalso; omega)
      · first | exact h3 | (exfalso; omega)
  · exact hp.elim
theorem yr_ge (X : hCx D cl cy L p s m args c cc nL tys Ts own) {off : Int} {tgt : Nat} (hd : decode cc pc = .ok (.if_icmp .ge off, 3)) (ht : (pc : Int) + off = (tgt : Int)) (k1 : yGo η kds D cl cy L Θ nL p l e R s m args below meth c Q (tgt) (P1)) (k2 : yGo η kds D cl cy L Θ nL p l e R s m args below meth c Q (pc + 3) (P2)) : yGo η kds D cl cy L Θ nL p l e R s m args below meth c Q (pc) (yLt P2 P1) := by
  refine yr_if2 X hd ht (fun loc st h hp => ?_) k1 k2
  unfold yLt at hp
  split at hp
  · rename_i b a st'
    refine ⟨b, a, st', rfl, hp.1, fun q => ?_, fun q => ?_⟩
    · have h3 := hp.2
      unfold zcmp zcn at q
      simp only at q
      split at h3
      · first | exact h3 | (exfalso; omega)
      · first | exact h3 | (exfalso; omega)
    · have h3 := hp.2
      unfold zcmp zcn at q
      simp only at q
      split at h3
      · first | exact h3 | (exfalso; omega)
      · first | exact h3 | (exfalso; omega)
  · exact hp.elim
theorem yr_gt (X : hCx D cl cy L p s m args c cc nL tys Ts own) {off : Int} {tgt : Nat} (hd : decode cc pc = .ok (.if_icmp .gt off, 3)) (ht : (pc : Int) + off = (tgt : Int)) (k1 : yGo η kds D cl cy L Θ nL p l e R s m args below meth c Q (tgt) (P1)) (k2 : yGo η kds D cl cy L Θ nL p l e R s m args below meth c Q (pc + 3) (P2)) : yGo η kds D cl cy L Θ nL p l e R s m args below meth c Q (pc) (yGt P1 P2) := by
  refine yr_if2 X hd ht (fun loc st h hp => ?_) k1 k2
  unfold yGt at hp
  split at hp
  · rename_i b a st'
    refine ⟨b, a, st', rfl, hp.1, fun q => ?_, fun q => ?_⟩
    · have h3 := hp.2
      unfold zcmp zcn at q
      simp only at q
      split at h3
      · first | exact h3 | (exfalso; omega)
      · first | exact h3 | (exfalso; omega)
    · have h3 := hp.2
      unfold zcmp zcn at q
      simp only at q
      split at h3
      · first | exact h3 | (exfalso; omega)
      · first | exact h3 | (exfalso; omega)
  · exact hp.elim
theorem yr_le (X : hCx D cl cy L p s m args c cc nL tys Ts own) {off : Int} {tgt : Nat} (hd : decode cc pc = .ok (.if_icmp .le off, 3)) (ht : (pc : Int) + off = (tgt : Int)) (k1 : yGo η kds D cl cy L Θ nL p l e R s m args below meth c Q (tgt) (P1)) (k2 : yGo η kds D cl cy L Θ nL p l e R s m args below meth c Q (pc + 3) (P2)) : yGo η kds D cl cy L Θ nL p l e R s m args below meth c Q (pc) (yGt P2 P1) := by
  refine yr_if2 X hd ht (fun loc st h hp => ?_) k1 k2
  unfold yGt at hp
  split at hp
  · rename_i b a st'
    refine ⟨b, a, st', rfl, hp.1, fun q => ?_, fun q => ?_⟩
    · have h3 := hp.2
      unfold zcmp zcn at q
      simp only at q
      split at h3
      · first | exact h3 | (exfalso; omega)
      · first | exact h3 | (exfalso; omega)
    · have h3 := hp.2
      unfold zcmp zcn at q
      simp only at q
      split at h3
      · first | exact h3 | (exfalso; omega)
      · first | exact h3 | (exfalso; omega)
  · exact hp.elim
theorem yr_eq (X : hCx D cl cy L p s m args c cc nL tys Ts own) {off : Int} {tgt : Nat} (hd : decode cc pc = .ok (.if_icmp .eq off, 3)) (ht : (pc : Int) + off = (tgt : Int)) (k1 : yGo η kds D cl cy L Θ nL p l e R s m args below meth c Q (tgt) (P1)) (k2 : yGo η kds D cl cy L Θ nL p l e R s m args below meth c Q (pc + 3) (P2)) : yGo η kds D cl cy L Θ nL p l e R s m args below meth c Q (pc) (yEq P1 P2) := by
  refine yr_if2 X hd ht (fun loc st h hp => ?_) k1 k2
  unfold yEq at hp
  split at hp
  · rename_i b a st'
    refine ⟨b, a, st', rfl, hp.1, fun q => ?_, fun q => ?_⟩
    · have h3 := hp.2
      unfold zcmp zcn at q
      simp only at q
      split at h3
      · first | exact h3 | (exfalso; omega)
      · first | exact h3 | (exfalso; omega)
    · have h3 := hp.2
      unfold zcmp zcn at q
      simp only at q
      split at h3
      · first | exact h3 | (exfalso; omega)
      · first | exact h3 | (exfalso; omega)
  · exact hp.elim
theorem yr_ne (X : hCx D cl cy L p s m args c cc nL tys Ts own) {off : Int} {tgt : Nat} (hd : decode cc pc = .ok (.if_icmp .ne off, 3)) (ht : (pc : Int) + off = (tgt : Int)) (k1 : yGo η kds D cl cy L Θ nL p l e R s m args below meth c Q (tgt) (P1)) (k2 : yGo η kds D cl cy L Θ nL p l e R s m args below meth c Q (pc + 3) (P2)) : yGo η kds D cl cy L Θ nL p l e R s m args below meth c Q (pc) (yEq P2 P1) := by
  refine yr_if2 X hd ht (fun loc st h hp => ?_) k1 k2
  unfold yEq at hp
  split at hp
  · rename_i b a st'
    refine ⟨b, a, st', rfl, hp.1, fun q => ?_, fun q => ?_⟩
    · have h3 := hp.2
      unfold zcmp zcn at q
      simp only at q
      split at h3
      · first | exact h3 | (exfalso; omega)
      · first | exact h3 | (exfalso; omega)
    · have h3 := hp.2
      unfold zcmp zcn at q
      simp only at q
      split at h3
      · first | exact h3 | (exfalso; omega)
      · first | exact h3 | (exfalso; omega)
  · exact hp.elim
theorem yr_lt0 (X : hCx D cl cy L p s m args c cc nL tys Ts own) {off : Int} {tgt : Nat} (hd : decode cc pc = .ok (.ifCond .lt off, 3)) (ht : (pc : Int) + off = (tgt : Int)) (k1 : yGo η kds D cl cy L Θ nL p l e R s m args below meth c Q (tgt) (P1)) (k2 : yGo η kds D cl cy L Θ nL p l e R s m args below meth c Q (pc + 3) (P2)) : yGo η kds D cl cy L Θ nL p l e R s m args below meth c Q (pc) (yLt0 P1 P2) := by
  refine yr_if1 X hd ht (fun loc st h hp => ?_) k1 k2
  unfold yLt0 at hp
  split at hp
  · rename_i a st'
    refine ⟨a, st', rfl, hp.1, fun q => ?_, fun q => ?_⟩
    · have h3 := hp.2
      unfold zcmp zcn at q
      simp only at q
      split at h3
      · first | exact h3 | (exfalso; omega)
      · first | exact h3 | (exfalso; omega)
    · have h3 := hp.2
      unfold zcmp zcn at q
      simp only at q
      split at h3
      · first | exact h3 | (exfalso; omega)
      · first | exact h3 | (exfalso; omega)
  · exact hp.elim
theorem yr_ge0 (X : hCx D cl cy L p s m args c cc nL tys Ts own) {off : Int} {tgt : Nat} (hd : decode cc pc = .ok (.ifCond .ge off, 3)) (ht : (pc : Int) + off = (tgt : Int)) (k1 : yGo η kds D cl cy L Θ nL p l e R s m args below meth c Q (tgt) (P1)) (k2 : yGo η kds D cl cy L Θ nL p l e R s m args below meth c Q (pc + 3) (P2)) : yGo η kds D cl cy L Θ nL p l e R s m args below meth c Q (pc) (yLt0 P2 P1) := by
  refine yr_if1 X hd ht (fun loc st h hp => ?_) k1 k2
  unfold yLt0 at hp
  split at hp
  · rename_i a st'
    refine ⟨a, st', rfl, hp.1, fun q => ?_, fun q => ?_⟩
    · have h3 := hp.2
      unfold zcmp zcn at q
      simp only at q
      split at h3
      · first | exact h3 | (exfalso; omega)
      · first | exact h3 | (exfalso; omega)
    · have h3 := hp.2
      unfold zcmp zcn at q
      simp only at q
      split at h3
      · first | exact h3 | (exfalso; omega)
      · first | exact h3 | (exfalso; omega)
  · exact hp.elim
theorem yr_le0 (X : hCx D cl cy L p s m args c cc nL tys Ts own) {off : Int} {tgt : Nat} (hd : decode cc pc = .ok (.ifCond .le off, 3)) (ht : (pc : Int) + off = (tgt : Int)) (k1 : yGo η kds D cl cy L Θ nL p l e R s m args below meth c Q (tgt) (P1)) (k2 : yGo η kds D cl cy L Θ nL p l e R s m args below meth c Q (pc + 3) (P2)) : yGo η kds D cl cy L Θ nL p l e R s m args below meth c Q (pc) (yGt0 P2 P1) := by
  refine yr_if1 X hd ht (fun loc st h hp => ?_) k1 k2
  unfold yGt0 at hp
  split at hp
  · rename_i a st'
    refine ⟨a, st', rfl, hp.1, fun q => ?_, fun q => ?_⟩
    · have h3 := hp.2
      unfold zcmp zcn at q
      simp only at q
      split at h3
      · first | exact h3 | (exfalso; omega)
      · first | exact h3 | (exfalso; omega)
    · have h3 := hp.2
      unfold zcmp zcn at q
      simp only at q
      split at h3
      · first | exact h3 | (exfalso; omega)
      · first | exact h3 | (exfalso; omega)
  · exact hp.elim
theorem yr_eq0 (X : hCx D cl cy L p s m args c cc nL tys Ts own) {off : Int} {tgt : Nat} (hd : decode cc pc = .ok (.ifCond .eq off, 3)) (ht : (pc : Int) + off = (tgt : Int)) (k1 : yGo η kds D cl cy L Θ nL p l e R s m args below meth c Q (tgt) (P1)) (k2 : yGo η kds D cl cy L Θ nL p l e R s m args below meth c Q (pc + 3) (P2)) : yGo η kds D cl cy L Θ nL p l e R s m args below meth c Q (pc) (yEq0 P1 P2) := by
  refine yr_if1 X hd ht (fun loc st h hp => ?_) k1 k2
  unfold yEq0 at hp
  split at hp
  · rename_i a st'
    refine ⟨a, st', rfl, hp.1, fun q => ?_, fun q => ?_⟩
    · have h3 := hp.2
      unfold zcmp zcn at q
      simp only at q
      split at h3
      · first | exact h3 | (exfalso; omega)
      · first | exact h3 | (exfalso; omega)
    · have h3 := hp.2
      unfold zcmp zcn at q
      simp only at q
      split at h3
      · first | exact h3 | (exfalso; omega)
      · first | exact h3 | (exfalso; omega)
  · exact hp.elim
theorem yr_ne0 (X : hCx D cl cy L p s m args c cc nL tys Ts own) {off : Int} {tgt : Nat} (hd : decode cc pc = .ok (.ifCond .ne off, 3)) (ht : (pc : Int) + off = (tgt : Int)) (k1 : yGo η kds D cl cy L Θ nL p l e R s m args below meth c Q (tgt) (P1)) (k2 : yGo η kds D cl cy L Θ nL p l e R s m args below meth c Q (pc + 3) (P2)) : yGo η kds D cl cy L Θ nL p l e R s m args below meth c Q (pc) (yEq0 P2 P1) := by
  refine yr_if1 X hd ht (fun loc st h hp => ?_) k1 k2
  unfold yEq0 at hp
  split at hp
  · rename_i a st'
    refine ⟨a, st', rfl, hp.1, fun q => ?_, fun q => ?_⟩
    · have h3 := hp.2
      unfold zcmp zcn at q
      simp only at q
      split at h3
      · first | exact h3 | (exfalso; omega)
      · first | exact h3 | (exfalso; omega)
    · have h3 := hp.2
      unfold zcmp zcn at q
      simp only at q
      split at h3
      · first | exact h3 | (exfalso; omega)
      · first | exact h3 | (exfalso; omega)
  · exact hp.elim
theorem yr_leq (X : hCx D cl cy L p s m args c cc nL tys Ts own) {off : Int} {tgt : Nat} (hd : decode cc pc = .ok (.lcmp, 1)) (hd2 : decode cc (pc + 1) = .ok (.ifCond .eq off, 3)) (ht : ((pc + 1 : Nat) : Int) + off = (tgt : Int)) (k1 : yGo η kds D cl cy L Θ nL p l e R s m args below meth c Q (tgt) (P1)) (k2 : yGo η kds D cl cy L Θ nL p l e R s m args below meth c Q (pc + 1 + 3) (P2)) : yGo η kds D cl cy L Θ nL p l e R s m args below meth c Q (pc) (yLEq P1 P2) := by
  intro loc st h H locs ls hp g
  unfold yLEq at hp
  split at hp
  · rename_i b a st'
    obtain ⟨⟨h1, h2⟩, h3⟩ := hp
    obtain ⟨x, ex, hx⟩ := y_long (η := η) (g.2.2.1 a (List.mem_cons_of_mem _ List.mem_cons_self)) h1
    obtain ⟨y, ey, hy⟩ := y_long (η := η) (g.2.2.1 b List.mem_cons_self) h2
    have gs : ∀ q ∈ st', yok Θ q := fun q hq => g.2.2.1 q (List.mem_cons_of_mem _ (List.mem_cons_of_mem _ hq))
    rw [List.map_cons, List.map_cons, ex, ey]
    refine W.lcmp X.1 X.2.1 hd ?_
    refine z_ic0 X.1 X.2.1 hd2 ht (fun q => ?_) (fun q => ?_)
    · rw [z_lc, hx, hy] at q
      rw [if_pos (show a.2 = b.2 from q)] at h3
      exact k1 loc st' h H locs ls h3 (yg_st g gs)
    · rw [z_lc, hx, hy] at q
      rw [if_neg (show ¬ a.2 = b.2 from q)] at h3
      exact k2 loc st' h H locs ls h3 (yg_st g gs)
  · exact hp.elim
theorem yr_lne (X : hCx D cl cy L p s m args c cc nL tys Ts own) {off : Int} {tgt : Nat} (hd : decode cc pc = .ok (.lcmp, 1)) (hd2 : decode cc (pc + 1) = .ok (.ifCond .ne off, 3)) (ht : ((pc + 1 : Nat) : Int) + off = (tgt : Int)) (k1 : yGo η kds D cl cy L Θ nL p l e R s m args below meth c Q (tgt) (P1)) (k2 : yGo η kds D cl cy L Θ nL p l e R s m args below meth c Q (pc + 1 + 3) (P2)) : yGo η kds D cl cy L Θ nL p l e R s m args below meth c Q (pc) (yLEq P2 P1) := by
  intro loc st h H locs ls hp g
  unfold yLEq at hp
  split at hp
  · rename_i b a st'
    obtain ⟨⟨h1, h2⟩, h3⟩ := hp
    obtain ⟨x, ex, hx⟩ := y_long (η := η) (g.2.2.1 a (List.mem_cons_of_mem _ List.mem_cons_self)) h1
    obtain ⟨y, ey, hy⟩ := y_long (η := η) (g.2.2.1 b List.mem_cons_self) h2
    have gs : ∀ q ∈ st', yok Θ q := fun q hq => g.2.2.1 q (List.mem_cons_of_mem _ (List.mem_cons_of_mem _ hq))
    rw [List.map_cons, List.map_cons, ex, ey]
    refine W.lcmp X.1 X.2.1 hd ?_
    refine z_ic0 X.1 X.2.1 hd2 ht (fun q => ?_) (fun q => ?_)
    · rw [z_lc, hx, hy] at q
      rw [if_neg (show ¬ a.2 = b.2 from q)] at h3
      exact k1 loc st' h H locs ls h3 (yg_st g gs)
    · rw [z_lc, hx, hy] at q
      have q' : a.2 = b.2 := Classical.byContradiction q
      rw [if_pos q'] at h3
      exact k2 loc st' h H locs ls h3 (yg_st g gs)
  · exact hp.elim
theorem yr_ifnull (X : hCx D cl cy L p s m args c cc nL tys Ts own) {off : Int} {tgt : Nat} (hd : decode cc pc = .ok (.ifnull off, 3)) (ht : (pc : Int) + off = (tgt : Int)) (k1 : yGo η kds D cl cy L Θ nL p l e R s m args below meth c Q (tgt) (P1)) (k2 : yGo η kds D cl cy L Θ nL p l e R s m args below meth c Q (pc + 3) (P2)) : yGo η kds D cl cy L Θ nL p l e R s m args below meth c Q (pc) (yNull P1 P2) := by
  intro loc st h H locs ls hp g
  unfold yNull at hp
  split at hp
  · rename_i a st'
    have gs : ∀ q ∈ st', yok Θ q := fun q hq => g.2.2.1 q (List.mem_cons_of_mem _ hq)
    rw [List.map_cons]
    rcases y_nul (η := η) (g.2.2.1 a List.mem_cons_self) hp.1 with ⟨h1, ex⟩ | ⟨h1, ex⟩
    · rw [ex]
      have h3 := hp.2
      rw [if_pos h1] at h3
      exact lv_ifnullN X.1 X.2.1 hd ht (k1 loc st' h H locs ls h3 (yg_st g gs))
    · rw [ex]
      have h3 := hp.2
      rw [if_neg (by omega)] at h3
      exact lv_ifnull X.1 X.2.1 hd (k2 loc st' h H locs ls h3 (yg_st g gs))
  · exact hp.elim
theorem yr_ifnonnull (X : hCx D cl cy L p s m args c cc nL tys Ts own) {off : Int} {tgt : Nat} (hd : decode cc pc = .ok (.ifnonnull off, 3)) (ht : (pc : Int) + off = (tgt : Int)) (k1 : yGo η kds D cl cy L Θ nL p l e R s m args below meth c Q (tgt) (P1)) (k2 : yGo η kds D cl cy L Θ nL p l e R s m args below meth c Q (pc + 3) (P2)) : yGo η kds D cl cy L Θ nL p l e R s m args below meth c Q (pc) (yNull P2 P1) := by
  intro loc st h H locs ls hp g
  unfold yNull at hp
  split at hp
  · rename_i a st'
    have gs : ∀ q ∈ st', yok Θ q := fun q hq => g.2.2.1 q (List.mem_cons_of_mem _ hq)
    rw [List.map_cons]
    rcases y_nul (η := η) (g.2.2.1 a List.mem_cons_self) hp.1 with ⟨h1, ex⟩ | ⟨h1, ex⟩
    · rw [ex]
      have h3 := hp.2
      rw [if_pos h1] at h3
      exact lv_ifnonnullN X.1 X.2.1 hd (k2 loc st' h H locs ls h3 (yg_st g gs))
    · rw [ex]
      have h3 := hp.2
      rw [if_neg (by omega)] at h3
      exact lv_ifnonnull X.1 X.2.1 hd ht (k1 loc st' h H locs ls h3 (yg_st g gs))
  · exact hp.elim
end YRH
end
section
variable {η : zRn}
/-! methods -/
/-- what a method's end says -/
def yQ (η : zRn) (kds : List zKD) (D : va_G) (cl : List vw_C) (cy : Nat → ClassId) (L : List Nat) (Θ : Nat → Option Nat) (vd : Bool) (Qr : yQt) : Array Value → State → Outcome → State → Prop := fun _ st oc t =>
  ∃ (v : Option Value) (a : yV) (h' : yH), oc = .returned v ∧ v = (if vd = true then none else some (yvo η a)) ∧ yok Θ a ∧ Qr a h' ∧ zH η kds D cl cy L Θ h' t.heap ∧ va_F (fun q => q ∈ L) st t
abbrev yY : Type := MethodName × ByteArray × Nat × Option FieldType
/-- a contract: from the tags of its values and what it does to numbers and cells -/
def yMet (kds : List zKD) (cl : List vw_C) (TW : List Cond) (KP : zKPt) (l : Launch) (y : yY) (fr lo : Nat) (tags : List Nat) (B : yB) : Prop :=
  ∀ (η : zRn) (D : va_G) (cy : Nat → ClassId) (L : List Nat) (Θ : Nat → Option Nat) (h : yH) (xs : List yV) (Qr : yQt), L.Nodup → xs.map Prod.fst = tags → (∀ a ∈ xs, yok Θ a) → B Θ (xs.map Prod.snd) h Qr →
    Met l y.1 (Cond.code y.1 y.2.1 y.2.2.1 y.2.2.2 :: TW) ({ frames := fr, cells := 0, slots := 0, locals := lo } : Room) (va_Pc (xs.map (yvo η)) (fun U => zH η kds D cl cy L Θ h U.heap ∧ KP η D cy L Θ U)) (yQ η kds D cl cy L Θ y.2.2.2.isNone Qr) 0 0 (fun q => q ∈ L)
/-- all that a walk takes as known of its method -/
def yCz (η : zRn) (kds : List zKD) (D : va_G) (cl : List vw_C) (cy : Nat → ClassId) (L : List Nat) (Θ : Nat → Option Nat) (nL : Nat) (p : Program) (l : Launch) (e : Env) (R : Room) (s : State) (m : MethodId) (args : Array Value) (below : List Frame) (meth : Method) (c : Code) (Q : State → Prop)
    (cc : ByteArray) (tys : List (ClassId × FieldType)) (own : String) (TW : List Cond) (KP : zKPt) (tyf : (Nat → ClassId) → List (ClassId × FieldType)) (ret : Option FieldType) (fr lo : Nat) (Qr : yQt) : Prop :=
  hCx D cl cy L p s m args c cc nL tys TW own ∧ (∃ w0, ∀ w ∈ w0 :: TW, w.before args s = true) ∧ KP η D cy L Θ s ∧ zKPok cl tyf KP ∧ zgoodW TW ∧ (R.frames = fr ∧ R.locals = lo) ∧ meth.sig.returnType = ret ∧ meth.locks = false ∧ Q = MQ below (yQ η kds D cl cy L Θ ret.isNone Qr) args s 0 0 (fun q => q ∈ L)
section YMT
variable {kds : List zKD} {D : va_G} {cl : List vw_C} {cy : Nat → ClassId} {L : List Nat} {Θ : Nat → Option Nat} {nL : Nat}
variable {p : Program} {l : Launch} {e : Env} {R : Room} {s : State} {m : MethodId} {args : Array Value} {below : List Frame} {meth : Method} {c : Code} {Q : State → Prop}
variable {cc : ByteArray} {pc : Nat} {tys : List (ClassId × FieldType)} {own : String} {TW : List Cond} {KP : zKPt} {tyf : (Nat → ClassId) → List (ClassId × FieldType)} {ret : Option FieldType} {fr lo : Nat} {Qr : yQt} {P : yP}
theorem y_end {loc : yL} {st : List yV} {h : yH} {H : Heap} {locs : List Loc} {ls : Array Slot} {v : Option Value} {a : yV} {t : State} (g : yG η kds D cl cy L Θ s.heap nL loc st h H locs ls) (hv : v = (if ret.isNone = true then none else some (yvo η a))) (ha : yok Θ a) (hq : Qr a h) (ht : t.heap = H) : yQ η kds D cl cy L Θ ret.isNone Qr args s (.returned v) t := by
  refine ⟨v, a, h, rfl, hv, ha, hq, by rw [ht]; exact g.2.2.2.1, by rw [ht]; exact g.2.2.2.2.1, fun q h1 h2 => ?_⟩
  rw [ht]
  exact g.2.2.2.2.2.1 q h1 h2
theorem yr_ri (Z : yCz η kds D cl cy L Θ nL p l e R s m args below meth c Q cc tys own TW KP tyf ret fr lo Qr) (hr : ret = some .int) (hd : decode cc pc = .ok (.ireturn, 1)) : yGo η kds D cl cy L Θ nL p l e R s m args below meth c Q (pc) (yRi Qr) := by
  intro loc st h H locs ls hp g
  unfold yRi at hp
  split at hp
  · rename_i a
    obtain ⟨X, -, -, -, -, -, h1, h2, rfl⟩ := Z
    have ga := g.2.2.1 a List.mem_cons_self
    obtain ⟨x, ex, hx⟩ := y_int (η := η) ga hp.1
    have hv : some (Value.int x) = (if ret.isNone = true then none else some (yvo η a)) := by rw [hr, ex]; rfl
    rw [List.map_cons, ex]
    exact W.iret X.1 X.2.1 (h1.trans hr) (fun t ht _ => y_end g hv ga hp.2 ht) (fun q hq => g.2.2.2.2.2.2 q hq) hd h2
  · exact hp.elim
theorem yr_rz (Z : yCz η kds D cl cy L Θ nL p l e R s m args below meth c Q cc tys own TW KP tyf ret fr lo Qr) (hr : ret = some .boolean) (hd : decode cc pc = .ok (.ireturn, 1)) : yGo η kds D cl cy L Θ nL p l e R s m args below meth c Q (pc) (yRz Qr) := by
  intro loc st h H locs ls hp g
  unfold yRz at hp
  split at hp
  · rename_i a
    obtain ⟨X, -, -, -, -, -, h1, h2, rfl⟩ := Z
    have ga := g.2.2.1 a List.mem_cons_self
    obtain ⟨x, ex, hx⟩ := y_int (η := η) ga hp.1
    have hv : some (Value.int x) = (if ret.isNone = true then none else some (yvo η a)) := by rw [hr, ex]; rfl
    have hb := z_b01 ⟨a.2.toNat, by have := hp.2.1; omega⟩
    simp only at hb
    rw [show ((a.2.toNat : Nat) : Int) = x.toInt by have := hp.2.1; omega, z_ofi] at hb
    rw [List.map_cons, ex]
    exact W.zret X.1 X.2.1 (h1.trans hr) hb.1 (fun t ht _ => y_end g hv ga hp.2.2 ht) (fun q hq => g.2.2.2.2.2.2 q hq) hd h2
  · exact hp.elim
theorem yr_ra (Z : yCz η kds D cl cy L Θ nL p l e R s m args below meth c Q cc tys own TW KP tyf ret fr lo Qr) {kk : Nat} {C : String} (h9 : kk < 100000) (hr : ret = some (.object C)) (hd : decode cc pc = .ok (.areturn, 1)) : yGo η kds D cl cy L Θ nL p l e R s m args below meth c Q (pc) (yRa kk Qr) := by
  intro loc st h H locs ls hp g
  unfold yRa at hp
  split at hp
  · rename_i a
    obtain ⟨X, -, -, -, -, -, h1, h2, rfl⟩ := Z
    have ga := g.2.2.1 a List.mem_cons_self
    have ga2 : yok Θ (kk + 2, a.2) := by
      unfold yok at ga ⊢
      rw [if_pos (by simp only; omega)]
      rcases hp.1 with e | e | e
      · rw [if_neg (by omega)] at ga
        refine Or.inr ⟨ga.1, ?_⟩
        rw [ga.2, e]
        exact congrArg some (by omega)
      · rw [if_pos (by omega), e] at ga
        exact ga
      · exact Or.inl e.2
    have ev : yvo η a = yvo η (kk + 2, a.2) := by
      obtain ⟨t, n⟩ := a
      have h2t : 2 ≤ t := by
        rcases hp.1 with e | e | e
        · simp only at e; omega
        · simp only at e; omega
        · exact e.1
      match t, h2t with
      | t + 2, _ => rfl
    have hv : some (yvo η a) = (if ret.isNone = true then none else some (yvo η (kk + 2, a.2))) := by rw [hr, ev]; rfl
    have hn : yvo η a = .null ∨ ∃ x, yvo η a = .ref x := by
      rw [ev]
      rcases y_nul (η := η) ga2 (by simp only; omega) with ⟨-, q⟩ | ⟨-, q⟩
      · exact Or.inl q
      · exact Or.inr ⟨_, q⟩
    rw [List.map_cons]
    exact W.aret X.1 X.2.1 (h1.trans hr) (Or.inl ⟨_, rfl⟩) hn (fun t ht _ => y_end g hv ga2 hp.2 ht) (fun q hq => g.2.2.2.2.2.2 q hq) hd h2
  · exact hp.elim
theorem yr_rv (Z : yCz η kds D cl cy L Θ nL p l e R s m args below meth c Q cc tys own TW KP tyf ret fr lo Qr) (hr : ret = none) (hd : decode cc pc = .ok (.return_, 1)) : yGo η kds D cl cy L Θ nL p l e R s m args below meth c Q (pc) (yRv Qr) := by
  intro loc st h H locs ls hp g
  unfold yRv at hp
  split at hp
  · obtain ⟨X, -, -, -, -, -, h1, h2, rfl⟩ := Z
    have hv : (none : Option Value) = (if ret.isNone = true then none else some (yvo η (0, 0))) := by rw [hr]; rfl
    exact W.vret X.1 X.2.1 (h1.trans hr) (fun t ht _ => y_end g hv (y_i (by omega) (by omega)) hp ht) (fun q hq => g.2.2.2.2.2.2 q hq) hd h2
  · exact hp.elim
/-- what a call needs -/
def yHrun (η : zRn) (kds : List zKD) (D : va_G) (cl : List vw_C) (cy : Nat → ClassId) (L : List Nat) (Θ : Nat → Option Nat) (nL : Nat) (p : Program) (l : Launch) (e : Env) (R : Room) (s : State) (m : MethodId) (args : Array Value) (below : List Frame) (meth : Method) (c : Code) (pc : Nat) (tags : List Nat) (B : yB) (vd : Bool) : Prop :=
  ∀ (xs : List yV) (h : yH) (H : Heap) (locs : List Loc) (ls : Array Slot) (rest : List Value) (Qr : yQt), xs.map Prod.fst = tags → (∀ a ∈ xs, yok Θ a) → B Θ (xs.map Prod.snd) h Qr → zH η kds D cl cy L Θ h H → va_S (fun q => q ∈ L) s.heap H locs → ls.size = nL → (rest.map (fun v => v.category)).sum ≤ 8 →
    va_Run p l e R s m args below meth c H locs 0 0 0 0 (F0 m pc ls ((xs.map (yvo η)).reverse ++ rest)) rest (yQ η kds D cl cy L Θ vd Qr (xs.map (yvo η)).toArray) (fun q => q ∈ L)
theorem y_cat8 : ∀ {st : List yV}, ((st.map (yvo η)).map (fun v => v.category)).sum ≤ 2 * st.length := by
  intro st
  induction st with
  | nil => simp
  | cons a r ih =>
    simp only [List.map_cons, List.sum_cons, List.length_cons]
    have : (yvo η a).category ≤ 2 := by
      by_cases h : a.1 = 1
      · have := y_cat (η := η) a
        rw [h] at this
        have h2 : (yvo η a).category = 2 := by simpa using this
        omega
      · rw [y_cat1 a h]; omega
    omega
theorem y_cal {n : Nat} {tags : List Nat} {B : yB} {vd : Bool} {loc : yL} {st : List yV} {h : yH} {H : Heap} {locs : List Loc} {ls : Array Slot} {Qr' : yQt} (hn : tags.length = n) (hrun : yHrun η kds D cl cy L Θ nL p l e R s m args below meth c pc tags B vd) (g : yG η kds D cl cy L Θ s.heap nL loc st h H locs ls) (h1 : n ≤ st.length ∧ (st.drop n).length ≤ 4) (h2 : (st.take n).reverse.map Prod.fst = tags) (h3 : B Θ ((st.take n).reverse.map Prod.snd) h Qr')
    (kk : ∀ (a : yV) (h' : yH) (H' : Heap) (locs' : List Loc), Qr' a h' → yok Θ a → zH η kds D cl cy L Θ h' H' → va_S (fun q => q ∈ L) s.heap H' locs' → W p l e R s m args below meth c H' locs' 0 0 Q (F0 m (pc + 3) ls ((if vd = true then (none : Option Value) else some (yvo η a)).toList ++ (st.drop n).map (yvo η)))) : W p l e R s m args below meth c H locs 0 0 Q (F0 m pc ls (st.map (yvo η))) := by
  have es : st.map (yvo η) = (((st.take n).reverse).map (yvo η)).reverse ++ (st.drop n).map (yvo η) := by
    rw [← List.map_reverse, List.reverse_reverse, ← List.map_append, List.take_append_drop]
  rw [es]
  have c8 := y_cat8 (η := η) (st := st.drop n)
  have hr := hrun ((st.take n).reverse) h H locs ls ((st.drop n).map (yvo η)) Qr' h2 (fun a ha => g.2.2.1 a (List.mem_of_mem_take (List.mem_reverse.mp ha))) h3 g.2.2.2.1 g.2.2.2.2 g.2.1.1 (by omega)
  intro T hT X
  obtain ⟨v, st₀, t, T', L', hh0, X', hL', e1, e2, ⟨v', a, h', hv, hv2, oa, oq, oH, oF⟩, stp⟩ := hr T hT X
  cases hv
  have gF := g.2.2.2.2
  have w := kk a h' t.heap (locs ++ L') oq oa oH ⟨Nat.le_trans gF.1 (by rw [← hh0]; exact oF.1), fun q hq hA => by
    have hq' : q < st₀.heap.size := by rw [hh0]; exact Nat.lt_of_lt_of_le hq gF.1
    rw [oF.2 q hq' hA, hh0]
    exact gF.2.1 q hq hA, fun q hq => by
    rcases List.mem_append.mp hq with hq | hq
    · exact gF.2.2 q hq
    · exact hL' q hq⟩
  rw [← hv2] at w
  obtain ⟨t2, q1, q2⟩ := w T' e1 X'
  exact ⟨t2, stp t2 q1, q2⟩
theorem yr_calR {n : Nat} {tags : List Nat} {B : yB} (hn : tags.length = n) (hrun : yHrun η kds D cl cy L Θ nL p l e R s m args below meth c pc tags B false) (k : yGo η kds D cl cy L Θ nL p l e R s m args below meth c Q (pc + 3) (P)) : yGo η kds D cl cy L Θ nL p l e R s m args below meth c Q (pc) (yCalR Θ n tags B P) := by
  intro loc st h H locs ls hp g
  obtain ⟨h1, h2, h3⟩ := hp
  exact y_cal hn hrun g h1 h2 h3 (fun a h' H' locs' oq oa oH oS => k loc (a :: st.drop n) h' H' locs' ls (oq oa) ⟨g.1, g.2.1, fun b hb => by
    rcases List.mem_cons.mp hb with rfl | hb
    · exact oa
    · exact g.2.2.1 b (List.mem_of_mem_drop hb), oH, oS⟩)
theorem yr_calV {n : Nat} {tags : List Nat} {B : yB} (hn : tags.length = n) (hrun : yHrun η kds D cl cy L Θ nL p l e R s m args below meth c pc tags B true) (k : yGo η kds D cl cy L Θ nL p l e R s m args below meth c Q (pc + 3) (P)) : yGo η kds D cl cy L Θ nL p l e R s m args below meth c Q (pc) (yCalV Θ n tags B P) := by
  intro loc st h H locs ls hp g
  obtain ⟨h1, h2, h3⟩ := hp
  exact y_cal hn hrun g h1 h2 h3 (fun a h' H' locs' oq oa oH oS => k loc (st.drop n) h' H' locs' ls oq ⟨g.1, g.2.1, fun b hb => g.2.2.1 b (List.mem_of_mem_drop hb), oH, oS⟩)
/-- what is known of a method that is called: of an object's, of a static one -/
def yCV (kds : List zKD) (cl : List vw_C) (TW : List Cond) (own : String) (cc : ByteArray) (fr lo pc : Nat) (y : yY) (fr' lo' : Nat) (tags : List Nat) : Prop :=
  ∃ idx : Nat, decode cc pc = .ok (.invokevirtual idx, 3) ∧ Cond.methodLink own idx y.1 ∈ TW ∧ Cond.instanceMethod y.1 ∈ TW ∧ Cond.selects y.1.cls y.1 y.1 ∈ TW ∧ Cond.initialized y.1.cls ∈ TW ∧ Cond.code y.1 y.2.1 y.2.2.1 y.2.2.2 ∈ TW ∧ (y.1.cls ≠ "java/lang/invoke/MethodHandle" ∧ y.1.cls ≠ "java/lang/invoke/VarHandle") ∧
    (parseMethodDescriptor y.1.desc).map (fun d => d.parameters.length) = some (tags.length - 1) ∧ fr' + 1 ≤ fr ∧ 8 + (y.2.2.1 + 11) + lo' ≤ lo ∧
    ∃ (kk : Nat) (ts : List Nat) (K : zKD) (T : u_T) (N : Nat), tags = (kk + 100002) :: ts ∧ kds[kk]? = some K ∧ K.1 = 0 ∧ cl[K.2.1]? = some (y.1.cls, T, N)
def yCS (TW : List Cond) (own : String) (cc : ByteArray) (fr lo pc : Nat) (y : yY) (fr' lo' : Nat) (tags : List Nat) : Prop :=
  ∃ idx : Nat, decode cc pc = .ok (.invokestatic idx, 3) ∧ Cond.methodLink own idx y.1 ∈ TW ∧ Cond.static y.1 ∈ TW ∧ Cond.initialized y.1.cls ∈ TW ∧ Cond.code y.1 y.2.1 y.2.2.1 y.2.2.2 ∈ TW ∧ (y.1.cls ≠ "java/lang/invoke/MethodHandle" ∧ y.1.cls ≠ "java/lang/invoke/VarHandle") ∧
    (parseMethodDescriptor y.1.desc).map (fun d => d.parameters.length) = some tags.length ∧ fr' + 1 ≤ fr ∧ 8 + (y.2.2.1 + 11) + lo' ≤ lo
theorem y_hrunV (Z : yCz η kds D cl cy L Θ nL p l e R s m args below meth c Q cc tys own TW KP tyf ret fr lo Qr) {y : yY} {fr' lo' : Nat} {tags : List Nat} {B : yB} (hM : yMet kds cl TW KP l y fr' lo' tags B) (hC : yCV kds cl TW own cc fr lo pc y fr' lo' tags) : yHrun η kds D cl cy L Θ nL p l e R s m args below meth c pc tags B y.2.2.2.isNone := by
  intro xs h H locs ls rest Qr' ht hA hB hH hS hsz hcat
  obtain ⟨⟨hexec, hb, hml, hts, hown, hKa, hTy, hnd⟩, ⟨w0, hw0⟩, hK, hKP, hg, ⟨hfr, hlo⟩, -, -, -⟩ := Z
  obtain ⟨idx, hd, m1, m2, m3, m4, m5, m6, m7, m8, m9, kk, ts, K, T, N, et, eK, eK0, eC⟩ := hC
  have hMM := hM η D cy L Θ h xs Qr' hnd ht hA hB
  cases xs with
  | nil => rw [et] at ht; cases ht
  | cons r ea =>
    have hr1 : r.1 = kk + 100002 := by
      rw [et] at ht
      simp only [List.map_cons, List.cons.injEq] at ht
      exact ht.1
    obtain ⟨a1, Θa, ea1⟩ := y_ref (η := η) (hA r List.mem_cons_self) hr1
    obtain ⟨q0, hq⟩ := zH_get hH Θa eK (by omega)
    rw [zE_o eK0] at hq
    have hrec := va_recv hKa hH.1 eC hq
    rw [List.map_cons, ea1] at hMM ⊢
    have hlen : ea.length = tags.length - 1 := by rw [← ht]; simp
    refine va_runV (C := y.1.cls) (n := tags.length - 1) (As := ea.map (yvo η)) (bytes := y.2.1) (maxL := y.2.2.1) (ret := y.2.2.2) (Ts := w0 :: TW) (own := own) ⟨hexec, hb, hml, hown, hw0⟩ hMM ⟨callB_of _ hw0 (z_good hg m5) rfl rfl rfl (hts _ m4) (hts _ m1) ⟨m6.1, m6.2, m7⟩ ⟨by rw [hfr]; exact m8, by rw [hlo]; exact m9⟩, hts _ m2, hts _ m3⟩ ⟨z_blind hKP, hrec, fun U hU hW => ⟨rfl, by rw [hU]; exact hH, ?_⟩⟩ rfl (by simpa using hlen) hsz (by simp) (by simpa using hcat) hd ⟨Nat.zero_le _, Nat.zero_le _⟩
    exact hKP.2.1 _ _ _ _ _ s U hK hW (by rw [hU]; exact hS.1) (fun q h1 h2 => by rw [hU]; exact hS.2.1 q h1 h2)
theorem y_hrunS (Z : yCz η kds D cl cy L Θ nL p l e R s m args below meth c Q cc tys own TW KP tyf ret fr lo Qr) {y : yY} {fr' lo' : Nat} {tags : List Nat} {B : yB} (hM : yMet kds cl TW KP l y fr' lo' tags B) (hC : yCS TW own cc fr lo pc y fr' lo' tags) : yHrun η kds D cl cy L Θ nL p l e R s m args below meth c pc tags B y.2.2.2.isNone := by
  intro xs h H locs ls rest Qr' ht hA hB hH hS hsz hcat
  obtain ⟨⟨hexec, hb, hml, hts, hown, hKa, hTy, hnd⟩, ⟨w0, hw0⟩, hK, hKP, hg, ⟨hfr, hlo⟩, -, -, -⟩ := Z
  obtain ⟨idx, hd, m1, m2, m4, m5, m6, m7, m8, m9⟩ := hC
  have hMM := hM η D cy L Θ h xs Qr' hnd ht hA hB
  have hlen : xs.length = tags.length := by rw [← ht]; simp
  refine va_runS (n := tags.length) (As := xs.map (yvo η)) (bytes := y.2.1) (maxL := y.2.2.1) (ret := y.2.2.2) (Ts := w0 :: TW) (own := own) ⟨hexec, hb, hml, hown, hw0⟩ hMM ⟨callB_of _ hw0 (z_good hg m5) rfl rfl rfl (hts _ m4) (hts _ m1) ⟨m6.1, m6.2, m7⟩ ⟨by rw [hfr]; exact m8, by rw [hlo]; exact m9⟩, hts _ m2⟩ ⟨z_blind hKP, fun U hU hW => ⟨rfl, by rw [hU]; exact hH, ?_⟩⟩ rfl (by simpa using hlen) hsz rfl (by simpa using hcat) hd ⟨Nat.zero_le _, Nat.zero_le _⟩
  exact hKP.2.1 _ _ _ _ _ s U hK hW (by rw [hU]; exact hS.1) (fun q h1 h2 => by rw [hU]; exact hS.2.1 q h1 h2)
end YMT
/-- the places of values among the locals -/
def yar : Nat → List yV → yL
  | _, [] => []
  | i, a :: r => (i, a) :: yar (i + if a.1 = 1 then 2 else 1) r
def ywd : List Nat → Nat
  | [] => 0
  | t :: r => (if t = 1 then 2 else 1) + ywd r
theorem y_args : ∀ {xs : List yV} {i : Nat}, lv_args i (xs.map (yvo η)) = (yar i xs).map (fun q => (q.1, yvo η q.2)) := by
  intro xs
  induction xs with
  | nil => intro i; rfl
  | cons a r ih =>
    intro i
    simp only [List.map_cons, lv_args, yar]
    congr 1
    have hc : ((yvo η a).category = 2) ↔ a.1 = 1 := by
      have := y_cat (η := η) a
      constructor
      · intro h
        rw [h] at this
        simpa using this.symm
      · intro h
        rw [h] at this
        simpa using this
    by_cases h : a.1 = 1
    · rw [if_pos (hc.mpr h), if_pos h]
      exact ih
    · rw [if_neg (fun q => h (hc.mp q)), if_neg h]
      exact ih
theorem y_wid : ∀ {xs : List yV}, (lg_sl (xs.map (yvo η))).length = ywd (xs.map Prod.fst) := by
  intro xs
  induction xs with
  | nil => rfl
  | cons a r ih =>
    unfold lg_sl at ih ⊢
    simp only [List.map_cons, List.flatMap_cons, List.length_append, ywd]
    rw [ih]
    congr 1
    by_cases h : a.1 = 1
    · have : (yvo η a).category = 2 := by
        have := y_cat (η := η) a
        rw [h] at this
        simpa using this
      rw [if_pos this, if_pos h]
      rfl
    · rw [y_cat1 a h, if_neg h]
      rfl
theorem y_arm {Θ : Nat → Option Nat} : ∀ {xs : List yV} {i : Nat}, (∀ a ∈ xs, yok Θ a) → ∀ q ∈ yar i xs, yok Θ q.2 := by
  intro xs
  induction xs with
  | nil => intro i _ q hq; cases hq
  | cons a r ih =>
    intro i ha q hq
    simp only [yar] at hq
    rcases List.mem_cons.mp hq with rfl | hq
    · exact ha a List.mem_cons_self
    · exact ih (fun b hb => ha b (List.mem_cons_of_mem _ hb)) q hq
/-- a method whose walk is sound keeps its contract -/
theorem y_met {kds : List zKD} {cl : List vw_C} {TW : List Cond} {KP : zKPt} {tyf : (Nat → ClassId) → List (ClassId × FieldType)} {l : Launch} (hKP : zKPok cl tyf KP) (hg : zgoodW TW) (y : yY) (fr lo : Nat) (tags : List Nat) (B : yB) (E : (Nat → Option Nat) → List yV → yH → yQt → yP) (hy : plainName y.1.cls = true) (hw : ywd tags ≤ y.2.2.1)
    (hE : ∀ (Θ : Nat → Option Nat) (xs : List yV) (h : yH) (Qr : yQt), xs.map Prod.fst = tags → (∀ a ∈ xs, yok Θ a) → B Θ (xs.map Prod.snd) h Qr → E Θ xs h Qr (yar 0 xs) [] h)
    (hgo : ∀ (η : zRn) (D : va_G) (cy : Nat → ClassId) (L : List Nat) (Θ : Nat → Option Nat) (p : Program) (e : Env) (R : Room) (s : State) (m : MethodId) (args : Array Value) (below : List Frame) (meth : Method) (c : Code) (Q : State → Prop) (xs : List yV) (h : yH) (Qr : yQt), (∀ a ∈ xs, yok Θ a) → xs.map Prod.fst = tags →
      yCz η kds D cl cy L Θ y.2.2.1 p l e R s m args below meth c Q y.2.1 (tyf cy) y.1.cls TW KP tyf y.2.2.2 fr lo Qr → yGo η kds D cl cy L Θ y.2.2.1 p l e R s m args below meth c Q 0 (E Θ xs h Qr)) : yMet kds cl TW KP l y fr lo tags B := by
  intro η D cy L Θ h xs Qr hnd ht hA hB
  refine Met.ofW (cc := y.2.1) (maxL := y.2.2.1) (ret := y.2.2.2) hy rfl ?_
  intro p e s m args below meth c s₁ B' hml hv
  obtain ⟨rfl, hH, hK⟩ := hv
  have hts := atoms_spec (ws := Cond.code y.1 y.2.1 y.2.2.1 y.2.2.2 :: TW) B'.pre
  have hown : s.vm.findClass y.1.cls = some m.cls := findClass_of_methodNamed B'.named
  obtain ⟨hKa, hTy⟩ := hKP.1 _ _ _ _ _ _ hK
  have hgo' := hgo η D cy L Θ p e (headSpec (Cond.code y.1 y.2.1 y.2.2.1 y.2.2.2 :: TW) ({ frames := fr, cells := 0, slots := 0, locals := lo } : Room)).room s m (xs.map (yvo η)).toArray below meth c _ xs h Qr hA ht ⟨⟨B'.exec, B'.bytes, hml, fun w hw => hts w (List.mem_cons_of_mem _ hw), hown, hKa, hTy, hnd⟩, ⟨_, hts⟩, hK, hKP, hg, ⟨rfl, rfl⟩, B'.returns, B'.notSynchronized, rfl⟩
  have hl := lv_entry (xs.map (yvo η)) (n := y.2.2.1) (by rw [y_wid, ht]; exact hw)
  rw [lg_entry_eq]
  generalize (lg_sl (xs.map (yvo η)) ++ List.replicate (y.2.2.1 - (lg_sl (xs.map (yvo η))).length) Slot.unset).toArray = ls at hl ⊢
  rw [y_args] at hl
  exact hgo' (yar 0 xs) [] h s.heap [] ls (hE Θ xs h Qr ht hA hB) ⟨y_arm hA, hl, fun _ hq => (by cases hq), hH, va_S.rf⟩
theorem y_zip : ∀ {xs : List yV} {tags : List Nat}, xs.map Prod.fst = tags → tags.zip (xs.map Prod.snd) = xs := by
  intro xs
  induction xs with
  | nil => intro tags h; subst h; rfl
  | cons a r ih =>
    intro tags h
    subst h
    simp only [List.map_cons, List.zip_cons_cons]
    rw [ih rfl]
theorem ycv_of {kds : List zKD} {cl : List vw_C} {own : String} {cc : ByteArray} {fr lo pc : Nat} {y : yY} {fr' lo' n : Nat} {tags : List Nat} (hM : zMV y.1 y.2.1 y.2.2.1 y.2.2.2 n) (idx : Nat) (hd : decode cc pc = .ok (.invokevirtual idx, 3)) (hl : Cond.methodLink own idx y.1 ∈ zTW) (hn : n = tags.length - 1) (h1 : fr' + 1 ≤ fr) (h2 : 8 + (y.2.2.1 + 11) + lo' ≤ lo)
    (h3 : ∃ (kk : Nat) (ts : List Nat) (K : zKD) (T : u_T) (N : Nat), tags = (kk + 100002) :: ts ∧ kds[kk]? = some K ∧ K.1 = 0 ∧ cl[K.2.1]? = some (y.1.cls, T, N)) : yCV kds cl zTW own cc fr lo pc y fr' lo' tags :=
  ⟨idx, hd, hl, hM.2.1, hM.2.2, hM.1.1, hM.1.2.1, hM.1.2.2.1, by rw [← hn]; exact hM.1.2.2.2, h1, h2, h3⟩
theorem ycs_of {own : String} {cc : ByteArray} {fr lo pc : Nat} {y : yY} {fr' lo' n : Nat} {tags : List Nat} (hM : zMS y.1 y.2.1 y.2.2.1 y.2.2.2 n) (idx : Nat) (hd : decode cc pc = .ok (.invokestatic idx, 3)) (hl : Cond.methodLink own idx y.1 ∈ zTW) (hn : n = tags.length) (h1 : fr' + 1 ≤ fr) (h2 : 8 + (y.2.2.1 + 11) + lo' ≤ lo) : yCS zTW own cc fr lo pc y fr' lo' tags :=
  ⟨idx, hd, hl, hM.2, hM.1.1, hM.1.2.1, hM.1.2.2.1, by rw [← hn]; exact hM.1.2.2.2, h1, h2⟩
end
section
variable {η : zRn}
/-! loops: states at a head by the numbers of its locals -/
def yvs : List (Nat × Nat) → yL → Option (List Int)
  | [], _ => some []
  | (i, t) :: r, loc => match yfind loc i with
    | some a => if a.1 = t then (yvs r loc).map (fun vs => a.2 :: vs) else none
    | none => none
def ycan : List (Nat × Nat) → List Int → yL
  | (i, t) :: r, v :: vs => (i, (t, v)) :: ycan r vs
  | _, _ => []
theorem y_vsm {loc : yL} : ∀ {ls : List (Nat × Nat)} {vs : List Int}, yvs ls loc = some vs → ∀ q ∈ ycan ls vs, q ∈ loc := by
  intro ls
  induction ls with
  | nil =>
    intro vs h q hq
    simp [ycan] at hq
  | cons p r ih =>
    obtain ⟨i, t⟩ := p
    intro vs h q hq
    unfold yvs at h
    split at h
    · rename_i a ha
      split at h
      · rename_i ht
        cases hr : yvs r loc with
        | none => rw [hr] at h; cases h
        | some vs' =>
          rw [hr] at h
          simp only [Option.map_some, Option.some.injEq] at h
          subst h
          simp only [ycan] at hq
          rcases List.mem_cons.mp hq with rfl | hq
          · have hm := y_fm ha
            rw [← ht]
            exact hm
          · exact ih hr q hq
      · cases h
    · cases h
section YLP
variable {kds : List zKD} {D : va_G} {cl : List vw_C} {cy : Nat → ClassId} {L : List Nat} {Θ : Nat → Option Nat} {nL : Nat}
variable {p : Program} {l : Launch} {e : Env} {R : Room} {s : State} {m : MethodId} {args : Array Value} {below : List Frame} {meth : Method} {c : Code} {Q : State → Prop}
variable {pc : Nat} {P : yP} {ls0 : List (Nat × Nat)}
end YLP
/-! how walks are gone through -/
end
