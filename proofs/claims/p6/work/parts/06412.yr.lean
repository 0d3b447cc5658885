variable {η : zRn}
/-! the rows -/
theorem y_int {Θ : Nat → Option Nat} {a : yV} (h : yok Θ a) (ht : a.1 = 0) : ∃ x : Int32, yvo η a = .int x ∧ x.toInt = a.2 := by
  obtain ⟨t, n⟩ := a
  simp only at ht
  subst ht
  unfold yok at h
  rw [if_pos (by simp)] at h
  exact ⟨Int32.ofInt n, rfl, z_toi h.1 h.2⟩
theorem y_long {Θ : Nat → Option Nat} {a : yV} (h : yok Θ a) (ht : a.1 = 1) : ∃ x : Int64, yvo η a = .long x ∧ x.toInt = a.2 := by
  obtain ⟨t, n⟩ := a
  simp only at ht
  subst ht
  unfold yok at h
  rw [if_pos (by simp)] at h
  refine ⟨Int64.ofInt n, rfl, ?_⟩
  have h2 : -9223372036854775808 ≤ n ∧ n ≤ 9223372036854775807 := h
  rw [Int64.toInt_ofInt]
  exact Int.bmod_eq_of_le (by simp only [Int64.size]; omega) (by simp only [Int64.size]; omega)
theorem y_ref {Θ : Nat → Option Nat} {a : yV} {k : Nat} (h : yok Θ a) (ht : a.1 = k + 100002) : 0 ≤ a.2 ∧ Θ a.2.toNat = some k ∧ yvo η a = .ref (η.1 a.2.toNat) := by
  obtain ⟨t, n⟩ := a
  simp only at ht
  subst ht
  unfold yok at h
  rw [if_neg (by simp)] at h
  refine ⟨h.1, h.2.trans (congrArg some (by simp only; omega)), ?_⟩
  show zdec η (k + 100002) n = _
  show va_rf (zrf η n) = _
  unfold zrf
  rw [if_neg (by have := h.1; simp only at this; omega)]
  rfl
theorem y_zok {Θ : Nat → Option Nat} {t : Nat} {x : Int} (h : 2 ≤ t) (hz : zok Θ t x) : x = -1 ∨ (0 ≤ x ∧ Θ x.toNat = some (t - 2)) := by
  match t, h, hz with
  | t + 2, _, hz => exact hz
theorem y_okn {Θ : Nat → Option Nat} {t : Nat} {n : Int} (h1 : 2 ≤ t) (h3 : 0 ≤ n) (hΘ : Θ n.toNat = some (t - 2)) : yok Θ (t + 100000, n) := by
  unfold yok
  rw [if_neg (by simp only; omega)]
  exact ⟨h3, hΘ.trans (congrArg some (by simp only; omega))⟩
theorem y_nul {Θ : Nat → Option Nat} {a : yV} (h : yok Θ a) (ht : 2 ≤ a.1) : (a.2 < 0 ∧ yvo η a = .null) ∨ (0 ≤ a.2 ∧ yvo η a = .ref (η.1 a.2.toNat)) := by
  obtain ⟨t, n⟩ := a
  match t, ht with
  | t + 2, _ =>
    by_cases hn : n < 0
    · refine Or.inl ⟨hn, ?_⟩
      show va_rf (zrf η n) = _
      unfold zrf
      rw [if_pos hn]
      rfl
    · refine Or.inr ⟨by simp only; omega, ?_⟩
      show va_rf (zrf η n) = _
      unfold zrf
      rw [if_neg hn]
      rfl
theorem y_i0 (Θ : Nat → Option Nat) (x : Int32) : yok Θ (0, x.toInt) := by
  unfold yok
  rw [if_pos (by simp)]
  exact ⟨z_lo x, z_hi x⟩
theorem y_i {Θ : Nat → Option Nat} {n : Int} (h1 : -2147483648 ≤ n) (h2 : n ≤ 2147483647) : yok Θ (0, n) := by
  unfold yok
  rw [if_pos (by simp)]
  exact ⟨h1, h2⟩
theorem y_l0 (Θ : Nat → Option Nat) (x : Int64) : yok Θ (1, x.toInt) := by
  unfold yok
  rw [if_pos (by simp)]
  exact ⟨z_lo64 x, z_hi64 x⟩
theorem y_cat (a : yV) : ((yvo η a).category == 2) = (a.1 == 1) := z_cat a.1 a.2
theorem y_cat1 (a : yV) (h : ¬ a.1 = 1) : (yvo η a).category = 1 := z_cat1 a.2 h
theorem y_fm {loc : yL} {i : Nat} {a : yV} (h : yfind loc i = some a) : (i, a) ∈ loc := by
  induction loc with
  | nil => cases h
  | cons q r ih =>
    obtain ⟨j, b⟩ := q
    unfold yfind at h
    split at h
    · rename_i e
      cases h
      subst e
      exact List.mem_cons_self
    · exact List.mem_cons_of_mem _ (ih h)
theorem y_del (loc : yL) (i : Nat) : ydel loc i = loc.filter (fun q => !(q.1 == i) && !(q.1 + 1 == i && q.2.1 == 1)) := by
  induction loc with
  | nil => rfl
  | cons q r ih =>
    obtain ⟨j, a⟩ := q
    unfold ydel
    rw [List.filter_cons, ih]
    by_cases h1 : j = i
    · simp [h1]
    · by_cases h2 : j + 1 = i ∧ a.1 = 1
      · simp [h1, h2.1, h2.2]
      · rw [if_neg h1, if_neg h2]
        rw [if_pos]
        simp only [Bool.and_eq_true, Bool.not_eq_true', beq_eq_false_iff_ne, ne_eq, Bool.and_eq_false_iff]
        refine ⟨h1, ?_⟩
        by_cases h3 : j + 1 = i
        · exact Or.inr (fun h4 => h2 ⟨h3, h4⟩)
        · exact Or.inl h3
theorem y_dsub {loc : yL} {i : Nat} : ∀ q ∈ ydel loc i, q ∈ loc := by
  intro q hq
  rw [y_del] at hq
  exact (List.mem_filter.mp hq).1
theorem y_pmap {loc : yL} {i : Nat} {a : yV} : (i, yvo η a) :: (loc.map fun q => (q.1, yvo η q.2)).filter (fun q => !(q.1 == i) && !(q.1 + 1 == i && q.2.category == 2)) = (yput loc i a).map fun q => (q.1, yvo η q.2) := by
  unfold yput
  rw [List.map_cons, y_del, List.filter_map]
  congr 2
  apply List.filter_congr
  intro q _
  simp only [Function.comp]
  rw [y_cat]
theorem y_pm {Pr : yV → Prop} {loc : yL} {i : Nat} {a : yV} (h : ∀ q ∈ loc, Pr q.2) (ha : Pr a) : ∀ q ∈ yput loc i a, Pr q.2 := by
  intro q hq
  rcases List.mem_cons.mp hq with rfl | hq
  · exact ha
  · exact h q (y_dsub q hq)
section YRW
variable {kds : List zKD} {D : va_G} {cl : List vw_C} {cy : Nat → ClassId} {L : List Nat} {Θ : Nat → Option Nat} {nL : Nat}
variable {p : Program} {l : Launch} {e : Env} {R : Room} {s : State} {m : MethodId} {args : Array Value} {below : List Frame} {meth : Method} {c : Code} {Q : State → Prop}
variable {cc : ByteArray} {pc : Nat} {tys : List (ClassId × FieldType)} {Ts : List Cond} {own : String} {P P1 P2 : yP}
theorem yr_mono {P' : yP} (h : ∀ loc st h, P loc st h → P' loc st h) (k : yGo η kds D cl cy L Θ nL p l e R s m args below meth c Q (pc) (P')) : yGo η kds D cl cy L Θ nL p l e R s m args below meth c Q (pc) (P) := fun loc st h' H locs ls hp g => k loc st h' H locs ls (h loc st h' hp) g
theorem yg_st {loc : yL} {st st' : List yV} {h : yH} {H H0 : Heap} {locs : List Loc} {ls : Array Slot} (g : yG η kds D cl cy L Θ H0 nL loc st h H locs ls) (hs : ∀ a ∈ st', yok Θ a) : yG η kds D cl cy L Θ H0 nL loc st' h H locs ls := ⟨g.1, g.2.1, hs, g.2.2.2.1, g.2.2.2.2⟩
/-- a constant -/
theorem yr_cst {t : Nat} {n : Int} {len : Nat} (hn : yok Θ (t, n)) (hw : ∀ (H : Heap) (locs : List Loc) (ls : Array Slot) (rest : List Value), W p l e R s m args below meth c H locs 0 0 Q (F0 m (pc + len) ls (yvo η (t, n) :: rest)) → W p l e R s m args below meth c H locs 0 0 Q (F0 m pc ls rest)) (k : yGo η kds D cl cy L Θ nL p l e R s m args below meth c Q (pc + len) (P)) : yGo η kds D cl cy L Θ nL p l e R s m args below meth c Q (pc) (yCst t n P) := by
  intro loc st h H locs ls hp g
  refine hw H locs ls _ (k loc ((t, n) :: st) h H locs ls hp (yg_st g ?_))
  intro a ha
  rcases List.mem_cons.mp ha with rfl | ha
  · exact hn
  · exact g.2.2.1 a ha
theorem yr_iconst (X : hCx D cl cy L p s m args c cc nL tys Ts own) {n : Int} (hd : decode cc pc = .ok (.iconst n, 1)) (hn : -1 ≤ n ∧ n ≤ 5) (k : yGo η kds D cl cy L Θ nL p l e R s m args below meth c Q (pc + 1) (P)) : yGo η kds D cl cy L Θ nL p l e R s m args below meth c Q (pc) (yCst 0 n P) :=
  yr_cst (y_i (by omega) (by omega)) (fun _ _ _ _ w => lv_iconst X.1 X.2.1 hd rfl w) k
theorem yr_bipush (X : hCx D cl cy L p s m args c cc nL tys Ts own) {n : Int} (hd : decode cc pc = .ok (.bipush n, 2)) (hn : -128 ≤ n ∧ n ≤ 127) (k : yGo η kds D cl cy L Θ nL p l e R s m args below meth c Q (pc + 2) (P)) : yGo η kds D cl cy L Θ nL p l e R s m args below meth c Q (pc) (yCst 0 n P) :=
  yr_cst (y_i (by omega) (by omega)) (fun _ _ _ _ w => lv_bipush X.1 X.2.1 hd (z_b8 hn.1 hn.2) w) k
theorem yr_sipush (X : hCx D cl cy L p s m args c cc nL tys Ts own) {n : Int} (hd : decode cc pc = .ok (.sipush n, 3)) (hn : -32768 ≤ n ∧ n ≤ 32767) (k : yGo η kds D cl cy L Θ nL p l e R s m args below meth c Q (pc + 3) (P)) : yGo η kds D cl cy L Θ nL p l e R s m args below meth c Q (pc) (yCst 0 n P) :=
  yr_cst (y_i (by omega) (by omega)) (fun _ _ _ _ w => lv_sipush X.1 X.2.1 hd (z_b16 hn.1 hn.2) w) k
theorem yr_lconst (X : hCx D cl cy L p s m args c cc nL tys Ts own) {n : Fin 2} {v : Int} (hv : (n.val : Int) = v) (hd : decode cc pc = .ok (.lconst n, 1)) (k : yGo η kds D cl cy L Θ nL p l e R s m args below meth c Q (pc + 1) (P)) : yGo η kds D cl cy L Θ nL p l e R s m args below meth c Q (pc) (yCst 1 v P) := by
  subst hv
  exact yr_cst (by unfold yok; rw [if_pos (by simp)]; show _ ∧ _; have := n.isLt; omega) (fun _ _ _ _ w => lv_lconst X.1 X.2.1 hd Int64.ofInt_eq_ofNat.symm w) k
theorem yr_ldc2 (X : hCx D cl cy L p s m args c cc nL tys Ts own) {i : Nat} {n : Int} (hd : decode cc pc = .ok (.ldc2_w i, 3)) (hc : Cond.constantLong own i (Int64.ofInt n) ∈ Ts) (hn : -9223372036854775808 ≤ n ∧ n ≤ 9223372036854775807) (k : yGo η kds D cl cy L Θ nL p l e R s m args below meth c Q (pc + 3) (P)) : yGo η kds D cl cy L Θ nL p l e R s m args below meth c Q (pc) (yCst 1 n P) :=
  yr_cst (by unfold yok; rw [if_pos (by simp)]; exact hn) (fun _ _ _ _ w => lv_ldc2 X.1 X.2.1 X.2.2.2.2.1 (X.2.2.2.1 _ hc) hd w) k
theorem yr_null (X : hCx D cl cy L p s m args c cc nL tys Ts own) (hd : decode cc pc = .ok (.aconst_null, 1)) (k : yGo η kds D cl cy L Θ nL p l e R s m args below meth c Q (pc + 1) (P)) : yGo η kds D cl cy L Θ nL p l e R s m args below meth c Q (pc) (yCst 2 (-1) P) :=
  yr_cst (by unfold yok; rw [if_pos (by simp)]; exact Or.inl rfl) (fun _ _ _ _ w => lv_null X.1 X.2.1 hd w) k
/-- a local comes on the stack -/
theorem yr_ld0 {i t len : Nat} (hw : ∀ (a : yV) (H : Heap) (locs : List Loc) (ls : Array Slot) (rest : List Value), a.1 = t → yok Θ a → ls[i]? = some (.val (yvo η a)) → W p l e R s m args below meth c H locs 0 0 Q (F0 m (pc + len) ls (yvo η a :: rest)) → W p l e R s m args below meth c H locs 0 0 Q (F0 m pc ls rest)) (k : yGo η kds D cl cy L Θ nL p l e R s m args below meth c Q (pc + len) (P)) : yGo η kds D cl cy L Θ nL p l e R s m args below meth c Q (pc) (yLd i t P) := by
  intro loc st h H locs ls hp g
  unfold yLd at hp
  split at hp
  · rename_i a ha
    have hm := y_fm ha
    refine hw a H locs ls _ hp.1 (g.1 _ hm) (g.2.1.2.2 (i, yvo η a) (List.mem_map.mpr ⟨(i, a), hm, rfl⟩)) (k loc (a :: st) h H locs ls hp.2 (yg_st g ?_))
    intro b hb
    rcases List.mem_cons.mp hb with rfl | hb
    · exact g.1 _ hm
    · exact g.2.2.1 b hb
  · exact hp.elim
theorem yr_iload (X : hCx D cl cy L p s m args c cc nL tys Ts own) {i : Nat} (hd : decode cc pc = .ok (.iload i, 2)) (k : yGo η kds D cl cy L Θ nL p l e R s m args below meth c Q (pc + 2) (P)) : yGo η kds D cl cy L Θ nL p l e R s m args below meth c Q (pc) (yLd i 0 P) :=
  yr_ld0 (fun a H locs ls rest ht ha hl w => by
    obtain ⟨x, hx, -⟩ := y_int (η := η) ha ht
    rw [hx] at hl w
    exact lv_iload X.1 X.2.1 hd hl w) k
theorem yr_iload_n (X : hCx D cl cy L p s m args c cc nL tys Ts own) {kf : Fin 4} {i : Nat} (hkf : kf.val = i) (hd : decode cc pc = .ok (.iload_n kf, 1)) (k : yGo η kds D cl cy L Θ nL p l e R s m args below meth c Q (pc + 1) (P)) : yGo η kds D cl cy L Θ nL p l e R s m args below meth c Q (pc) (yLd i 0 P) :=
  yr_ld0 (fun a H locs ls rest ht ha hl w => by
    obtain ⟨x, hx, -⟩ := y_int (η := η) ha ht
    rw [hx] at hl w
    exact lv_iload_n X.1 X.2.1 hd hkf hl w) k
theorem yr_lload (X : hCx D cl cy L p s m args c cc nL tys Ts own) {i : Nat} (hd : decode cc pc = .ok (.lload i, 2)) (k : yGo η kds D cl cy L Θ nL p l e R s m args below meth c Q (pc + 2) (P)) : yGo η kds D cl cy L Θ nL p l e R s m args below meth c Q (pc) (yLd i 1 P) :=
  yr_ld0 (fun a H locs ls rest ht ha hl w => by
    obtain ⟨x, hx, -⟩ := y_long (η := η) ha ht
    rw [hx] at hl w
    exact lv_lload X.1 X.2.1 hd hl w) k
theorem yr_lload_n (X : hCx D cl cy L p s m args c cc nL tys Ts own) {kf : Fin 4} {i : Nat} (hkf : kf.val = i) (hd : decode cc pc = .ok (.lload_n kf, 1)) (k : yGo η kds D cl cy L Θ nL p l e R s m args below meth c Q (pc + 1) (P)) : yGo η kds D cl cy L Θ nL p l e R s m args below meth c Q (pc) (yLd i 1 P) :=
  yr_ld0 (fun a H locs ls rest ht ha hl w => by
    obtain ⟨x, hx, -⟩ := y_long (η := η) ha ht
    rw [hx] at hl w
    exact lv_lload_n X.1 X.2.1 hd hkf hl w) k
theorem yr_aload (X : hCx D cl cy L p s m args c cc nL tys Ts own) {i t : Nat} (ht2 : 2 ≤ t) (hd : decode cc pc = .ok (.aload i, 2)) (k : yGo η kds D cl cy L Θ nL p l e R s m args below meth c Q (pc + 2) (P)) : yGo η kds D cl cy L Θ nL p l e R s m args below meth c Q (pc) (yLd i t P) :=
  yr_ld0 (fun a H locs ls rest ht ha hl w => by
    rcases y_nul (η := η) ha (by omega) with ⟨-, hx⟩ | ⟨-, hx⟩
    · rw [hx] at hl w
      exact lv_aloadN X.1 X.2.1 hd hl w
    · rw [hx] at hl w
      exact lv_aload X.1 X.2.1 hd hl w) k
theorem yr_aload_n (X : hCx D cl cy L p s m args c cc nL tys Ts own) {kf : Fin 4} {i : Nat} (hkf : kf.val = i) {t : Nat} (ht2 : 2 ≤ t) (hd : decode cc pc = .ok (.aload_n kf, 1)) (k : yGo η kds D cl cy L Θ nL p l e R s m args below meth c Q (pc + 1) (P)) : yGo η kds D cl cy L Θ nL p l e R s m args below meth c Q (pc) (yLd i t P) :=
  yr_ld0 (fun a H locs ls rest ht ha hl w => by
    rcases y_nul (η := η) ha (by omega) with ⟨-, hx⟩ | ⟨-, hx⟩
    · rw [hx] at hl w
      exact lv_aload_nN X.1 X.2.1 hd hkf hl w
    · rw [hx] at hl w
      exact lv_aload_n X.1 X.2.1 hd hkf hl w) k
/-- the top goes into a local -/
theorem yr_st0 {i t len : Nat} (hw : ∀ (a : yV) (H : Heap) (locs : List Loc) (ls : Array Slot) (rest : List Value) (lv : List (Nat × Value)), a.1 = t → yok Θ a → lv_has ls nL lv → (∀ ls' : Array Slot, lv_has ls' nL ((i, yvo η a) :: lv.filter (fun q => !(q.1 == i) && !(q.1 + 1 == i && q.2.category == 2))) → W p l e R s m args below meth c H locs 0 0 Q (F0 m (pc + len) ls' rest)) → W p l e R s m args below meth c H locs 0 0 Q (F0 m pc ls (yvo η a :: rest))) (k : yGo η kds D cl cy L Θ nL p l e R s m args below meth c Q (pc + len) (P)) : yGo η kds D cl cy L Θ nL p l e R s m args below meth c Q (pc) (ySt i t P) := by
  intro loc st h H locs ls hp g
  unfold ySt at hp
  split at hp
  · rename_i a st'
    have ha := g.2.2.1 a List.mem_cons_self
    rw [List.map_cons]
    refine hw a H locs ls _ _ hp.1 ha g.2.1 (fun ls' hl' => ?_)
    rw [y_pmap] at hl'
    exact k _ st' h H locs ls' hp.2 ⟨y_pm (Pr := yok Θ) g.1 ha, hl', fun b hb => g.2.2.1 b (List.mem_cons_of_mem _ hb), g.2.2.2.1, g.2.2.2.2⟩
  · exact hp.elim
theorem yr_istore (X : hCx D cl cy L p s m args c cc nL tys Ts own) {i : Nat} (hi : i < nL) (hd : decode cc pc = .ok (.istore i, 2)) (k : yGo η kds D cl cy L Θ nL p l e R s m args below meth c Q (pc + 2) (P)) : yGo η kds D cl cy L Θ nL p l e R s m args below meth c Q (pc) (ySt i 0 P) :=
  yr_st0 (fun a H locs ls rest lv ht ha hl w => by
    obtain ⟨x, hx, -⟩ := y_int (η := η) ha ht
    rw [hx] at w ⊢
    exact lv_istore X.1 X.2.1 hd hl hi rfl w) k
theorem yr_istore_n (X : hCx D cl cy L p s m args c cc nL tys Ts own) {kf : Fin 4} {i : Nat} (hkf : kf.val = i) (hi : i < nL) (hd : decode cc pc = .ok (.istore_n kf, 1)) (k : yGo η kds D cl cy L Θ nL p l e R s m args below meth c Q (pc + 1) (P)) : yGo η kds D cl cy L Θ nL p l e R s m args below meth c Q (pc) (ySt i 0 P) :=
  yr_st0 (fun a H locs ls rest lv ht ha hl w => by
    obtain ⟨x, hx, -⟩ := y_int (η := η) ha ht
    rw [hx] at w ⊢
    exact lv_istore_n X.1 X.2.1 hd hkf hl hi rfl w) k
theorem yr_astore (X : hCx D cl cy L p s m args c cc nL tys Ts own) {i t : Nat} (ht2 : 2 ≤ t) (hi : i < nL) (hd : decode cc pc = .ok (.astore i, 2)) (k : yGo η kds D cl cy L Θ nL p l e R s m args below meth c Q (pc + 2) (P)) : yGo η kds D cl cy L Θ nL p l e R s m args below meth c Q (pc) (ySt i t P) :=
  yr_st0 (fun a H locs ls rest lv ht ha hl w => by
    rcases y_nul (η := η) ha (by omega) with ⟨-, hx⟩ | ⟨-, hx⟩
    · rw [hx] at w ⊢
      exact lv_astoreN X.1 X.2.1 hd hl hi rfl w
    · rw [hx] at w ⊢
      exact lv_astore X.1 X.2.1 hd hl hi rfl w) k
theorem yr_astore_n (X : hCx D cl cy L p s m args c cc nL tys Ts own) {kf : Fin 4} {i : Nat} (hkf : kf.val = i) {t : Nat} (ht2 : 2 ≤ t) (hi : i < nL) (hd : decode cc pc = .ok (.astore_n kf, 1)) (k : yGo η kds D cl cy L Θ nL p l e R s m args below meth c Q (pc + 1) (P)) : yGo η kds D cl cy L Θ nL p l e R s m args below meth c Q (pc) (ySt i t P) :=
  yr_st0 (fun a H locs ls rest lv ht ha hl w => by
    rcases y_nul (η := η) ha (by omega) with ⟨-, hx⟩ | ⟨-, hx⟩
    · rw [hx] at w ⊢
      exact lv_astore_nN X.1 X.2.1 hd hkf hl hi rfl w
    · rw [hx] at w ⊢
      exact lv_astore_n X.1 X.2.1 hd hkf hl hi rfl w) k
theorem yr_inc (X : hCx D cl cy L p s m args c cc nL tys Ts own) {i : Nat} {n : Int} (hi : i < nL) (hn : -32768 ≤ n ∧ n ≤ 32767) (hd : decode cc pc = .ok (.iinc i n, 3)) (k : yGo η kds D cl cy L Θ nL p l e R s m args below meth c Q (pc + 3) (P)) : yGo η kds D cl cy L Θ nL p l e R s m args below meth c Q (pc) (yInc i n P) := by
  intro loc st h H locs ls hp g
  unfold yInc at hp
  split at hp
  · rename_i a ha
    obtain ⟨h1, h2, h3⟩ := hp
    have hm := y_fm ha
    obtain ⟨x, ex, hx⟩ := y_int (η := η) (g.1 _ hm) h1
    have hx : x.toInt = a.2 := hx
    obtain ⟨j, hj⟩ := List.getElem?_of_mem (List.mem_map.mpr ⟨(i, a), hm, rfl⟩ : (i, yvo η a) ∈ loc.map fun q => (q.1, yvo η q.2))
    rw [ex] at hj
    have hy : (Int32.ofInt n).toInt = n := z_toi (by omega) (by omega)
    have es : (x + Int32.ofInt n).toInt = a.2 + n := by rw [z_add (by rw [hx, hy]; omega) (by rw [hx, hy]; omega), hx, hy]
    have ev : yvo η (0, a.2 + n) = .int (x + Int32.ofInt n) := by
      show Value.int (Int32.ofInt (a.2 + n)) = _
      rw [← es, z_ofi]
    refine lv_iinc (v := x + Int32.ofInt n) X.1 X.2.1 hd g.2.1 hj rfl hi rfl (fun ls' hl' => ?_)
    rw [← ev, y_pmap] at hl'
    exact k _ st h H locs ls' h3 ⟨y_pm (Pr := yok Θ) g.1 (y_i (by omega) (by omega)), hl', g.2.2.1, g.2.2.2.1, g.2.2.2.2⟩
  · exact hp.elim
/-- two numbers give one -/
theorem yr_bin {st' : List yV} {loc : yL} {h : yH} {H : Heap} {locs : List Loc} {ls : Array Slot} {a b : yV} {v : Int} {pc' : Nat} (ga : yG η kds D cl cy L Θ s.heap nL loc (b :: a :: st') h H locs ls) (hv : yok Θ (0, v)) (hp : P loc ((0, v) :: st') h) (k : yGo η kds D cl cy L Θ nL p l e R s m args below meth c Q (pc') (P)) : W p l e R s m args below meth c H locs 0 0 Q (F0 m pc' ls (yvo η (0, v) :: st'.map (yvo η))) := by
  refine k loc ((0, v) :: st') h H locs ls hp (yg_st ga ?_)
  intro q hq
  rcases List.mem_cons.mp hq with rfl | hq
  · exact hv
  · exact ga.2.2.1 q (List.mem_cons_of_mem _ (List.mem_cons_of_mem _ hq))
theorem y_vi {v : Int} {x : Int32} (h : x.toInt = v) : yvo η (0, v) = .int x := by
  show Value.int (Int32.ofInt v) = _
  rw [← h, z_ofi]
theorem y_vl {v : Int} {x : Int64} (h : x.toInt = v) : yvo η (1, v) = .long x := by
  show Value.long (Int64.ofInt v) = _
  rw [← h, z_ofi64]
theorem yr_add (X : hCx D cl cy L p s m args c cc nL tys Ts own) (hd : decode cc pc = .ok (.iadd, 1)) (k : yGo η kds D cl cy L Θ nL p l e R s m args below meth c Q (pc + 1) (P)) : yGo η kds D cl cy L Θ nL p l e R s m args below meth c Q (pc) (yAdd P) := by
  intro loc st h H locs ls hp g
  unfold yAdd at hp
  split at hp
  · rename_i b a st'
    obtain ⟨⟨h1, h2⟩, h3, h4⟩ := hp
    obtain ⟨x, ex, hx⟩ := y_int (η := η) (g.2.2.1 a (List.mem_cons_of_mem _ List.mem_cons_self)) h1
    obtain ⟨y, ey, hy⟩ := y_int (η := η) (g.2.2.1 b List.mem_cons_self) h2
    have es : (x + y).toInt = a.2 + b.2 := by rw [z_add (by rw [hx, hy]; omega) (by rw [hx, hy]; omega), hx, hy]
    have w := yr_bin g (y_i (Θ := Θ) (by omega) (by omega)) h4 k
    rw [y_vi es] at w
    rw [List.map_cons, List.map_cons, ex, ey]
    exact lv_iadd X.1 X.2.1 hd w
  · exact hp.elim
theorem yr_sub (X : hCx D cl cy L p s m args c cc nL tys Ts own) (hd : decode cc pc = .ok (.isub, 1)) (k : yGo η kds D cl cy L Θ nL p l e R s m args below meth c Q (pc + 1) (P)) : yGo η kds D cl cy L Θ nL p l e R s m args below meth c Q (pc) (ySub P) := by
  intro loc st h H locs ls hp g
  unfold ySub at hp
  split at hp
  · rename_i b a st'
    obtain ⟨⟨h1, h2⟩, h3, h4⟩ := hp
    obtain ⟨x, ex, hx⟩ := y_int (η := η) (g.2.2.1 a (List.mem_cons_of_mem _ List.mem_cons_self)) h1
    obtain ⟨y, ey, hy⟩ := y_int (η := η) (g.2.2.1 b List.mem_cons_self) h2
    have es : (x - y).toInt = a.2 - b.2 := by rw [z_sub (by rw [hx, hy]; omega) (by rw [hx, hy]; omega), hx, hy]
    have w := yr_bin g (y_i (Θ := Θ) (by omega) (by omega)) h4 k
    rw [y_vi es] at w
    rw [List.map_cons, List.map_cons, ex, ey]
    exact lv_isub X.1 X.2.1 hd w
  · exact hp.elim
theorem yr_mul (X : hCx D cl cy L p s m args c cc nL tys Ts own) (hd : decode cc pc = .ok (.imul, 1)) (k : yGo η kds D cl cy L Θ nL p l e R s m args below meth c Q (pc + 1) (P)) : yGo η kds D cl cy L Θ nL p l e R s m args below meth c Q (pc) (yMul P) := by
  intro loc st h H locs ls hp g
  unfold yMul at hp
  split at hp
  · rename_i b a st'
    obtain ⟨⟨h1, h2⟩, h3, h4⟩ := hp
    obtain ⟨x, ex, hx⟩ := y_int (η := η) (g.2.2.1 a (List.mem_cons_of_mem _ List.mem_cons_self)) h1
    obtain ⟨y, ey, hy⟩ := y_int (η := η) (g.2.2.1 b List.mem_cons_self) h2
    have es : (x * y).toInt = a.2 * b.2 := by rw [z_mul (by rw [hx, hy]; exact h3.1) (by rw [hx, hy]; exact h3.2), hx, hy]
    have w := yr_bin g (y_i (Θ := Θ) h3.1 h3.2) h4 k
    rw [y_vi es] at w
    rw [List.map_cons, List.map_cons, ex, ey]
    exact lv_imul X.1 X.2.1 hd w
  · exact hp.elim
theorem yr_ari {op : Nat} (hw : ∀ (x y : Int32) (H : Heap) (locs : List Loc) (ls : Array Slot) (rest : List Value), W p l e R s m args below meth c H locs 0 0 Q (F0 m (pc + 1) ls (.int (zsem op x y) :: rest)) → W p l e R s m args below meth c H locs 0 0 Q (F0 m pc ls (.int y :: .int x :: rest))) (k : yGo η kds D cl cy L Θ nL p l e R s m args below meth c Q (pc + 1) (P)) : yGo η kds D cl cy L Θ nL p l e R s m args below meth c Q (pc) (yAri op P) := by
  intro loc st h H locs ls hp g
  unfold yAri at hp
  split at hp
  · rename_i b a st'
    obtain ⟨⟨h1, h2⟩, h4⟩ := hp
    obtain ⟨x, ex, hx⟩ := y_int (η := η) (g.2.2.1 a (List.mem_cons_of_mem _ List.mem_cons_self)) h1
    obtain ⟨y, ey, hy⟩ := y_int (η := η) (g.2.2.1 b List.mem_cons_self) h2
    have es : (zsem op x y).toInt = yari op a.2 b.2 := by
      unfold yari
      rw [← hx, ← hy, z_ofi, z_ofi]
    have w := yr_bin g (y_i0 Θ (zsem op (Int32.ofInt a.2) (Int32.ofInt b.2))) h4 k
    rw [show (0, (zsem op (Int32.ofInt a.2) (Int32.ofInt b.2)).toInt) = ((0, yari op a.2 b.2) : yV) from rfl, y_vi es] at w
    rw [List.map_cons, List.map_cons, ex, ey]
    exact hw x y H locs ls _ w
  · exact hp.elim
theorem yr_shl (X : hCx D cl cy L p s m args c cc nL tys Ts own) (hd : decode cc pc = .ok (.ishl, 1)) (k : yGo η kds D cl cy L Θ nL p l e R s m args below meth c Q (pc + 1) (P)) : yGo η kds D cl cy L Θ nL p l e R s m args below meth c Q (pc) (yAri 5 P) := yr_ari (fun _ _ _ _ _ _ w => lv_ishl X.1 X.2.1 hd w) k
theorem yr_shr (X : hCx D cl cy L p s m args c cc nL tys Ts own) (hd : decode cc pc = .ok (.ishr, 1)) (k : yGo η kds D cl cy L Θ nL p l e R s m args below meth c Q (pc + 1) (P)) : yGo η kds D cl cy L Θ nL p l e R s m args below meth c Q (pc) (yAri 6 P) := yr_ari (fun _ _ _ _ _ _ w => lv_ishr X.1 X.2.1 hd w) k
theorem yr_and (X : hCx D cl cy L p s m args c cc nL tys Ts own) (hd : decode cc pc = .ok (.iand, 1)) (k : yGo η kds D cl cy L Θ nL p l e R s m args below meth c Q (pc + 1) (P)) : yGo η kds D cl cy L Θ nL p l e R s m args below meth c Q (pc) (yAri 7 P) := yr_ari (fun _ _ _ _ _ _ w => lv_iand X.1 X.2.1 hd w) k
theorem yr_or (X : hCx D cl cy L p s m args c cc nL tys Ts own) (hd : decode cc pc = .ok (.ior, 1)) (k : yGo η kds D cl cy L Θ nL p l e R s m args below meth c Q (pc + 1) (P)) : yGo η kds D cl cy L Θ nL p l e R s m args below meth c Q (pc) (yAri 8 P) := yr_ari (fun _ _ _ _ _ _ w => lv_ior X.1 X.2.1 hd w) k
theorem yr_ushr (X : hCx D cl cy L p s m args c cc nL tys Ts own) (hd : decode cc pc = .ok (.iushr, 1)) (k : yGo η kds D cl cy L Θ nL p l e R s m args below meth c Q (pc + 1) (P)) : yGo η kds D cl cy L Θ nL p l e R s m args below meth c Q (pc) (yUshr P) := by
  intro loc st h H locs ls hp g
  unfold yUshr at hp
  split at hp
  · rename_i b a st'
    obtain ⟨⟨h1, h2⟩, h4⟩ := hp
    obtain ⟨x, ex, hx⟩ := y_int (η := η) (g.2.2.1 a (List.mem_cons_of_mem _ List.mem_cons_self)) h1
    obtain ⟨y, ey, hy⟩ := y_int (η := η) (g.2.2.1 b List.mem_cons_self) h2
    have es : ((x.toUInt32 >>> (y.toUInt32 &&& Int32.toUInt32 31)).toInt32).toInt = yushr a.2 b.2 := by
      unfold yushr
      rw [← hx, ← hy, z_ofi, z_ofi]
    have w := yr_bin g (by rw [← es]; exact y_i0 Θ _) h4 k
    rw [y_vi es] at w
    rw [List.map_cons, List.map_cons, ex, ey]
    exact lv_iushr X.1 X.2.1 hd rfl w
  · exact hp.elim
theorem yr_un {t : Nat} {st' : List yV} {loc : yL} {h : yH} {H : Heap} {locs : List Loc} {ls : Array Slot} {a : yV} {v : Int} {pc' : Nat} (ga : yG η kds D cl cy L Θ s.heap nL loc (a :: st') h H locs ls) (hv : yok Θ (t, v)) (hp : P loc ((t, v) :: st') h) (k : yGo η kds D cl cy L Θ nL p l e R s m args below meth c Q (pc') (P)) : W p l e R s m args below meth c H locs 0 0 Q (F0 m pc' ls (yvo η (t, v) :: st'.map (yvo η))) := by
  refine k loc ((t, v) :: st') h H locs ls hp (yg_st ga ?_)
  intro q hq
  rcases List.mem_cons.mp hq with rfl | hq
  · exact hv
  · exact ga.2.2.1 q (List.mem_cons_of_mem _ hq)
theorem yr_i2b (X : hCx D cl cy L p s m args c cc nL tys Ts own) (hd : decode cc pc = .ok (.i2b, 1)) (k : yGo η kds D cl cy L Θ nL p l e R s m args below meth c Q (pc + 1) (P)) : yGo η kds D cl cy L Θ nL p l e R s m args below meth c Q (pc) (yI2b P) := by
  intro loc st h H locs ls hp g
  unfold yI2b at hp
  split at hp
  · rename_i a st'
    obtain ⟨h1, h4⟩ := hp
    obtain ⟨x, ex, hx⟩ := y_int (η := η) (g.2.2.1 a List.mem_cons_self) h1
    have es : (x.toInt8.toInt32).toInt = yi2b a.2 := by
      unfold yi2b
      rw [← hx, z_ofi]
    have w := yr_un g (by rw [← es]; exact y_i0 Θ _) h4 k
    rw [y_vi es] at w
    rw [List.map_cons, ex]
    exact lv_i2b X.1 X.2.1 hd rfl w
  · exact hp.elim
theorem yr_i2l (X : hCx D cl cy L p s m args c cc nL tys Ts own) (hd : decode cc pc = .ok (.i2l, 1)) (k : yGo η kds D cl cy L Θ nL p l e R s m args below meth c Q (pc + 1) (P)) : yGo η kds D cl cy L Θ nL p l e R s m args below meth c Q (pc) (yI2l P) := by
  intro loc st h H locs ls hp g
  unfold yI2l at hp
  split at hp
  · rename_i a st'
    obtain ⟨h1, h4⟩ := hp
    obtain ⟨x, ex, hx⟩ := y_int (η := η) (g.2.2.1 a List.mem_cons_self) h1
    have b1 := z_lo x
    have b2 := z_hi x
    have w := yr_un g (t := 1) (by unfold yok; rw [if_pos (by simp)]; show _ ∧ _; omega) h4 k
    have ev : yvo η (1, a.2) = .long x.toInt64 := by
      show Value.long (Int64.ofInt a.2) = _
      rw [← hx]
      congr 1
    rw [ev] at w
    rw [List.map_cons, ex]
    exact lv_i2l X.1 X.2.1 hd rfl w
  · exact hp.elim
theorem yr_lor (X : hCx D cl cy L p s m args c cc nL tys Ts own) (hd : decode cc pc = .ok (.lor, 1)) (k : yGo η kds D cl cy L Θ nL p l e R s m args below meth c Q (pc + 1) (P)) : yGo η kds D cl cy L Θ nL p l e R s m args below meth c Q (pc) (yLor P) := by
  intro loc st h H locs ls hp g
  unfold yLor at hp
  split at hp
  · rename_i b a st'
    obtain ⟨⟨h1, h2⟩, h4⟩ := hp
    obtain ⟨x, ex, hx⟩ := y_long (η := η) (g.2.2.1 a (List.mem_cons_of_mem _ List.mem_cons_self)) h1
    obtain ⟨y, ey, hy⟩ := y_long (η := η) (g.2.2.1 b List.mem_cons_self) h2
    have es : (x ||| y).toInt = ylor a.2 b.2 := by
      unfold ylor
      rw [← hx, ← hy, z_ofi64, z_ofi64]
    have w := k loc ((1, ylor a.2 b.2) :: st') h H locs ls h4 (yg_st g (fun q hq => by
      rcases List.mem_cons.mp hq with rfl | hq
      · rw [← es]; exact y_l0 Θ _
      · exact g.2.2.1 q (List.mem_cons_of_mem _ (List.mem_cons_of_mem _ hq))))
    rw [List.map_cons, y_vl es] at w
    rw [List.map_cons, List.map_cons, ex, ey]
    exact lv_lor X.1 X.2.1 hd w
  · exact hp.elim
theorem yr_lshl (X : hCx D cl cy L p s m args c cc nL tys Ts own) (hd : decode cc pc = .ok (.lshl, 1)) (k : yGo η kds D cl cy L Θ nL p l e R s m args below meth c Q (pc + 1) (P)) : yGo η kds D cl cy L Θ nL p l e R s m args below meth c Q (pc) (yLshl P) := by
  intro loc st h H locs ls hp g
  unfold yLshl at hp
  split at hp
  · rename_i b a st'
    obtain ⟨⟨h1, h2⟩, h4⟩ := hp
    obtain ⟨x, ex, hx⟩ := y_long (η := η) (g.2.2.1 a (List.mem_cons_of_mem _ List.mem_cons_self)) h1
    obtain ⟨y, ey, hy⟩ := y_int (η := η) (g.2.2.1 b List.mem_cons_self) h2
    have es : (x <<< (y.toInt64 &&& 63)).toInt = ylshl a.2 b.2 := by
      unfold ylshl
      rw [← hx, ← hy, z_ofi64, z_ofi]
    have w := k loc ((1, ylshl a.2 b.2) :: st') h H locs ls h4 (yg_st g (fun q hq => by
      rcases List.mem_cons.mp hq with rfl | hq
      · rw [← es]; exact y_l0 Θ _
      · exact g.2.2.1 q (List.mem_cons_of_mem _ (List.mem_cons_of_mem _ hq))))
    rw [List.map_cons, y_vl es] at w
    rw [List.map_cons, List.map_cons, ex, ey]
    exact lv_lshl X.1 X.2.1 hd rfl w
  · exact hp.elim
theorem yr_dup (X : hCx D cl cy L p s m args c cc nL tys Ts own) (hd : decode cc pc = .ok (.dup, 1)) (k : yGo η kds D cl cy L Θ nL p l e R s m args below meth c Q (pc + 1) (P)) : yGo η kds D cl cy L Θ nL p l e R s m args below meth c Q (pc) (yDup P) := by
  intro loc st h H locs ls hp g
  unfold yDup at hp
  split at hp
  · rename_i a st'
    have w := k loc (a :: a :: st') h H locs ls hp.2 (yg_st g (fun q hq => by
      rcases List.mem_cons.mp hq with rfl | hq
      · exact g.2.2.1 _ List.mem_cons_self
      · exact g.2.2.1 q hq))
    rw [List.map_cons]
    exact lv_dup X.1 X.2.1 hd (y_cat1 a hp.1) w
  · exact hp.elim
theorem yr_dup2 (X : hCx D cl cy L p s m args c cc nL tys Ts own) (hd : decode cc pc = .ok (.dup2, 1)) (k : yGo η kds D cl cy L Θ nL p l e R s m args below meth c Q (pc + 1) (P)) : yGo η kds D cl cy L Θ nL p l e R s m args below meth c Q (pc) (yDup2 P) := by
  intro loc st h H locs ls hp g
  unfold yDup2 at hp
  split at hp
  · rename_i a b st'
    have w := k loc (a :: b :: a :: b :: st') h H locs ls hp.2 (yg_st g (fun q hq => by
      rcases List.mem_cons.mp hq with rfl | hq
      · exact g.2.2.1 _ List.mem_cons_self
      · rcases List.mem_cons.mp hq with rfl | hq
        · exact g.2.2.1 _ (List.mem_cons_of_mem _ List.mem_cons_self)
        · exact g.2.2.1 q hq))
    rw [List.map_cons, List.map_cons]
    exact lv_dup2_11 X.1 X.2.1 hd (y_cat1 a hp.1.1) (y_cat1 b hp.1.2) w
  · exact hp.elim
theorem y_ev {t : Nat} {n : Int} (h1 : 2 ≤ t) : yvo η (t, n) = yvo η (t + 100000, n) := by
  obtain ⟨k, rfl⟩ : ∃ k, t = k + 2 := ⟨t - 2, by omega⟩
  rfl
theorem yr_nn (k : yGo η kds D cl cy L Θ nL p l e R s m args below meth c Q (pc) (P)) : yGo η kds D cl cy L Θ nL p l e R s m args below meth c Q (pc) (yNn Θ P) := by
  intro loc st h H locs ls hp g
  unfold yNn at hp
  split at hp
  · rename_i a st'
    obtain ⟨⟨h1, h2⟩, h3, h4⟩ := hp
    have ha := g.2.2.1 a List.mem_cons_self
    obtain ⟨t, n⟩ := a
    simp only at h1 h2 h3 h4
    have hz : zok Θ t n := by
      unfold yok at ha
      rw [if_pos h2] at ha
      exact ha
    have hΘ : Θ n.toNat = some (t - 2) := by
      rcases y_zok h1 hz with e | e
      · omega
      · exact e.2
    have ev := y_ev (η := η) (n := n) h1
    have ok := y_okn h1 h3 hΘ
    generalize t + 100000 = T at h4 ev ok
    have w := k loc ((T, n) :: st') h H locs ls (h4 hΘ) (yg_st g (fun q hq => by
      rcases List.mem_cons.mp hq with rfl | hq
      · exact ok
      · exact g.2.2.1 q (List.mem_cons_of_mem _ hq)))
    have e : ((t, n) :: st').map (yvo η) = ((T, n) :: st').map (yvo η) := congrArg (fun v => v :: st'.map (yvo η)) ev
    rw [e]
    exact w
  · exact hp.elim
theorem y_slot {K : zKD} {kk a j : Nat} {h : yH} {H : Heap} (hH : zH η kds D cl cy L Θ h H) (hΘ : Θ a = some kk) (hK : kds[kk]? = some K) (hj : j < K.2.2.1) (h9 : (zty K j).1 < 100002) : yok Θ (ytag (zty K j), h a j) := by
  obtain ⟨b1, b2, b3⟩ := zH_in hH hΘ hK hj
  generalize zty K j = tt at b1 b2 b3 h9
  obtain ⟨t, lo, hi⟩ := tt
  unfold ytag yok
  simp only at b1 b2 b3 h9 ⊢
  by_cases hc : 2 ≤ t ∧ 0 ≤ lo
  · rw [if_pos hc]
    rw [if_neg (by omega)]
    rcases y_zok hc.1 b1 with b1 | b1
    · omega
    · exact ⟨b1.1, b1.2.trans (congrArg some (by omega))⟩
  · rw [if_neg hc, if_pos h9]
    exact b1
theorem y_svo {K : zKD} {j : Nat} {x : Int} : yvo η (ytag (zty K j), x) = zdec η (zty K j).1 x := by
  generalize zty K j = tt
  obtain ⟨t, lo, hi⟩ := tt
  unfold ytag yvo
  simp only
  split
  · rename_i hc
    match t, hc.1 with
    | t + 2, _ => rfl
  · rfl
end YRW
