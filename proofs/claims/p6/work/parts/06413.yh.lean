variable {η : zRn}
/-! rows of the heap, of jumps, of ends -/
/-- what is said of a field: its class, its tag, its bounds -/
def yfd (kds : List zKD) (kk j ci t : Nat) (lo hi : Int) : Bool := match kds[kk]? with
  | some K => decide (K.1 = 0) && decide (K.2.1 = ci) && decide (j < K.2.2.1) && decide ((zty K j).1 < 100002) && decide (ytag (zty K j) = t) && decide ((zty K j).2.1 = lo) && decide ((zty K j).2.2 = hi)
  | none => false
theorem y_fd {kds : List zKD} {kk j ci t : Nat} {lo hi : Int} (h : yfd kds kk j ci t lo hi = true) : ∃ K, kds[kk]? = some K ∧ (K.1 = 0 ∧ K.2.1 = ci) ∧ j < K.2.2.1 ∧ (zty K j).1 < 100002 ∧ ytag (zty K j) = t ∧ (zty K j).2.1 = lo ∧ (zty K j).2.2 = hi := by
  unfold yfd at h
  split at h
  · rename_i K hK
    simp only [Bool.and_eq_true, decide_eq_true_eq] at h
    obtain ⟨⟨⟨⟨⟨⟨h1, h2⟩, h3⟩, h4⟩, h5⟩, h6⟩, h7⟩ := h
    exact ⟨K, hK, ⟨h1, h2⟩, h3, h4, h5, h6, h7⟩
  · cases h
/-- an array of numbers: its type, its length; all its elements between the same bounds -/
def yad (kds : List zKD) (kk ty n : Nat) (lo hi : Int) : Bool := match kds[kk]? with
  | some K => decide (K.1 = 1) && decide (K.2.1 = ty) && decide (K.2.2.1 = n) && decide (K.2.2.2 = [(0, lo, hi)]) && decide (ty = 0 ∨ (ty = 1 ∧ -128 ≤ lo ∧ hi ≤ 127) ∨ (ty = 2 ∧ 0 ≤ lo ∧ hi ≤ 1)) && decide (-2147483648 ≤ lo) && decide (hi ≤ 2147483647)
  | none => false
theorem y_ad {kds : List zKD} {kk ty n : Nat} {lo hi : Int} (h : yad kds kk ty n lo hi = true) : ∃ K, kds[kk]? = some K ∧ (K.1 = 1 ∧ K.2.1 = ty) ∧ K.2.2.1 = n ∧ (∀ j, zty K j = (0, lo, hi)) ∧ (ty = 0 ∨ (ty = 1 ∧ -128 ≤ lo ∧ hi ≤ 127) ∨ (ty = 2 ∧ 0 ≤ lo ∧ hi ≤ 1)) ∧ -2147483648 ≤ lo ∧ hi ≤ 2147483647 := by
  unfold yad at h
  split at h
  · rename_i K hK
    simp only [Bool.and_eq_true, decide_eq_true_eq] at h
    obtain ⟨⟨⟨⟨⟨⟨h1, h2⟩, h3⟩, h4⟩, h5⟩, h6⟩, h7⟩ := h
    refine ⟨K, hK, ⟨h1, h2⟩, h3, fun j => ?_, h5, h6, h7⟩
    unfold zty
    rw [h4]
    simp [Nat.mod_one]
  · cases h
/-- an array of ints with bounds of their own for each place -/
def yak (kds : List zKD) (kk n : Nat) (K : zKD) : Prop := kds[kk]? = some K ∧ (K.1 = 1 ∧ K.2.1 = 0) ∧ K.2.2.1 = n ∧ ∀ j, j < n → (zty K j).1 = 0
/-- an array of references -/
def yqd (kds : List zKD) (kk n t : Nat) : Bool := match kds[kk]? with
  | some K => decide (K.1 = 2) && decide (3 ≤ K.2.1 ∧ K.2.1 ≤ 6) && decide (K.2.2.1 = n) && (List.range n).all (fun j => decide (ytag (zty K j) = t) && decide ((zty K j).1 < 100002) && decide (2 ≤ (zty K j).1))
  | none => false
section YRH
variable {kds : List zKD} {D : va_G} {cl : List vw_C} {cy : Nat → ClassId} {L : List Nat} {Θ : Nat → Option Nat} {nL : Nat}
variable {p : Program} {l : Launch} {e : Env} {R : Room} {s : State} {m : MethodId} {args : Array Value} {below : List Frame} {meth : Method} {c : Code} {Q : State → Prop}
variable {cc : ByteArray} {pc : Nat} {tys : List (ClassId × FieldType)} {Ts : List Cond} {own : String} {P P1 P2 : yP}
theorem yr_get (X : hCx D cl cy L p s m args c cc nL tys Ts own) {idx ci j kk t : Nat} {lo hi : Int} {o : Option FieldType} (hF : zFok own Ts cl (idx, ci, j, o)) (hk : yfd kds kk j ci t lo hi = true) (hd : decode cc pc = .ok (.getfield idx, 3)) (k : yGo η kds D cl cy L Θ nL p l e R s m args below meth c Q (pc + 3) (P)) : yGo η kds D cl cy L Θ nL p l e R s m args below meth c Q (pc) (yGet kk j t lo hi P) := by
  intro loc st h H locs ls hp g
  unfold yGet at hp
  split at hp
  · rename_i a st'
    obtain ⟨h1, h2⟩ := hp
    obtain ⟨K, e1, e2, e3, e4, e5, e6, e7⟩ := y_fd hk
    obtain ⟨a1, a2, a3⟩ := y_ref (η := η) (g.2.2.1 a List.mem_cons_self) h1
    obtain ⟨-, b2, b3⟩ := zH_in g.2.2.2.1 a2 e1 e3
    rw [e6] at b2
    rw [e7] at b3
    have ok := y_slot g.2.2.2.1 a2 e1 e3 e4
    rw [e5] at ok
    have w := yr_un g ok (h2 b2 b3) k
    rw [← e5, y_svo] at w
    rw [List.map_cons, a3]
    exact hw_get X hF a2 e1 e2 e3 g.2.2.2.1 hd w
  · exact hp.elim
theorem yr_getP (X : hCx D cl cy L p s m args c cc nL tys Ts own) {idx ci j kk k2 : Nat} {lo hi : Int} {o : Option FieldType} (hF : zFok own Ts cl (idx, ci, j, o)) (hk : yfd kds kk j ci (k2 + 100002) lo hi = true) (hd : decode cc pc = .ok (.getfield idx, 3)) (k : yGo η kds D cl cy L Θ nL p l e R s m args below meth c Q (pc + 3) (P)) : yGo η kds D cl cy L Θ nL p l e R s m args below meth c Q (pc) (yGetP Θ kk j k2 P) := by
  intro loc st h H locs ls hp g
  unfold yGetP at hp
  split at hp
  · rename_i a st'
    obtain ⟨h1, h2⟩ := hp
    obtain ⟨K, e1, e2, e3, e4, e5, e6, e7⟩ := y_fd hk
    obtain ⟨a1, a2, a3⟩ := y_ref (η := η) (g.2.2.1 a List.mem_cons_self) h1
    have ok := y_slot g.2.2.2.1 a2 e1 e3 e4
    rw [e5] at ok
    obtain ⟨c1, c2, -⟩ := y_ref (η := η) ok rfl
    have w := yr_un g ok (h2 c1 c2) k
    rw [← e5, y_svo] at w
    rw [List.map_cons, a3]
    exact hw_get X hF a2 e1 e2 e3 g.2.2.2.1 hd w
  · exact hp.elim
theorem yr_put (X : hCx D cl cy L p s m args c cc nL tys Ts own) {idx ci j kk : Nat} {lo hi : Int} {ty : FieldType} (hF : zFok own Ts cl (idx, ci, j, some ty)) (hk : yfd kds kk j ci 0 lo hi = true) (hft : zfty ty (0, lo, hi) = true) (hd : decode cc pc = .ok (.putfield idx, 3)) (k : yGo η kds D cl cy L Θ nL p l e R s m args below meth c Q (pc + 3) (P)) : yGo η kds D cl cy L Θ nL p l e R s m args below meth c Q (pc) (yPut kk j lo hi P) := by
  intro loc st h H locs ls hp g
  unfold yPut at hp
  split at hp
  · rename_i v a st'
    obtain ⟨⟨h1, h2⟩, h3, h4⟩ := hp
    obtain ⟨K, e1, e2, e3, e4, e5, e6, e7⟩ := y_fd hk
    have gv := g.2.2.1 v List.mem_cons_self
    obtain ⟨a1, a2, a3⟩ := y_ref (η := η) (g.2.2.1 a (List.mem_cons_of_mem _ List.mem_cons_self)) h1
    have ez : zty K j = (0, lo, hi) := by
      generalize zty K j = tt at e5 e6 e7
      obtain ⟨t, x, y⟩ := tt
      simp only at e6 e7
      subst e6 e7
      unfold ytag at e5
      simp only at e5
      split at e5
      · omega
      · rw [e5]
    have ev : yvo η v = zdec η (zty K j).1 v.2 := by rw [ez]; unfold yvo; rw [h2]
    have vok : zok Θ (zty K j).1 v.2 := by
      rw [ez]
      obtain ⟨t, n⟩ := v
      simp only at h2
      subst h2
      unfold yok at gv
      rw [if_pos (by simp)] at gv
      exact gv
    rw [List.map_cons, List.map_cons, a3, ev]
    refine hw_put X hF a2 e1 e2 e3 (by rw [ez]; exact hft) ⟨vok, by rw [ez]; exact h3.1, by rw [ez]; exact h3.2⟩ g.2.2.2.1 g.2.2.2.2 hd (fun H1 locs1 hH1 hS1 => ?_)
    exact k loc st' _ H1 locs1 ls h4 ⟨g.1, g.2.1, fun q hq => g.2.2.1 q (List.mem_cons_of_mem _ (List.mem_cons_of_mem _ hq)), hH1, hS1⟩
  · exact hp.elim
/-- a field of ints, longs without bounds -/
theorem yr_put0 (X : hCx D cl cy L p s m args c cc nL tys Ts own) {idx ci j kk t : Nat} {lo hi : Int} {ty : FieldType} (hF : zFok own Ts cl (idx, ci, j, some ty)) (hk : yfd kds kk j ci t lo hi = true) (ht : (t = 0 ∧ lo = -2147483648 ∧ hi = 2147483647) ∨ (t = 1 ∧ lo = -9223372036854775808 ∧ hi = 9223372036854775807)) (hft : zfty ty (t, lo, hi) = true) (hd : decode cc pc = .ok (.putfield idx, 3)) (k : yGo η kds D cl cy L Θ nL p l e R s m args below meth c Q (pc + 3) (P)) : yGo η kds D cl cy L Θ nL p l e R s m args below meth c Q (pc) (yPut0 kk j t P) := by
  intro loc st h H locs ls hp g
  unfold yPut0 at hp
  split at hp
  · rename_i v a st'
    obtain ⟨⟨h1, h2⟩, h4⟩ := hp
    obtain ⟨K, e1, e2, e3, e4, e5, e6, e7⟩ := y_fd hk
    have gv := g.2.2.1 v List.mem_cons_self
    obtain ⟨a1, a2, a3⟩ := y_ref (η := η) (g.2.2.1 a (List.mem_cons_of_mem _ List.mem_cons_self)) h1
    have ez : zty K j = (t, lo, hi) := by
      generalize zty K j = tt at e5 e6 e7
      obtain ⟨t', x, y⟩ := tt
      simp only at e6 e7
      subst e6 e7
      unfold ytag at e5
      simp only at e5
      split at e5
      · omega
      · rw [e5]
    have ev : yvo η v = zdec η (zty K j).1 v.2 := by rw [ez]; unfold yvo; rw [h2]
    have vok : zok Θ t v.2 ∧ lo ≤ v.2 ∧ v.2 ≤ hi := by
      obtain ⟨t', n⟩ := v
      simp only at h2
      subst h2
      unfold yok at gv
      rcases ht with ⟨rfl, rfl, rfl⟩ | ⟨rfl, rfl, rfl⟩
      · rw [if_pos (by simp)] at gv
        exact ⟨gv, gv⟩
      · rw [if_pos (by simp)] at gv
        exact ⟨gv, gv⟩
    rw [List.map_cons, List.map_cons, a3, ev]
    refine hw_put X hF a2 e1 e2 e3 (by rw [ez]; exact hft) (by rw [ez]; exact vok) g.2.2.2.1 g.2.2.2.2 hd (fun H1 locs1 hH1 hS1 => ?_)
    exact k loc st' _ H1 locs1 ls h4 ⟨g.1, g.2.1, fun q hq => g.2.2.1 q (List.mem_cons_of_mem _ (List.mem_cons_of_mem _ hq)), hH1, hS1⟩
  · exact hp.elim
/-- an element is read -/
theorem yr_aldK (X : hCx D cl cy L p s m args c cc nL tys Ts own) {kk n : Nat} {K : zKD} {lo hi : Nat → Int} (hK : kds[kk]? = some K) (hn : K.2.2.1 = n) (hz : ∀ j, j < n → zty K j = (0, lo j, hi j)) (hKf : (K.1 = 1 ∧ K.2.1 = 0 ∧ decode cc pc = .ok (.iaload, 1)) ∨ (K.1 = 1 ∧ (K.2.1 = 1 ∨ K.2.1 = 2) ∧ decode cc pc = .ok (.baload, 1))) (k : yGo η kds D cl cy L Θ nL p l e R s m args below meth c Q (pc + 1) (P)) : yGo η kds D cl cy L Θ nL p l e R s m args below meth c Q (pc) (yAld kk n lo hi P) := by
  intro loc st h H locs ls hp g
  unfold yAld at hp
  split at hp
  · rename_i i a st'
    obtain ⟨⟨h1, h2⟩, h3, h4⟩ := hp
    obtain ⟨a1, a2, a3⟩ := y_ref (η := η) (g.2.2.1 a (List.mem_cons_of_mem _ List.mem_cons_self)) h1
    obtain ⟨x, ex, hx⟩ := y_int (η := η) (g.2.2.1 i List.mem_cons_self) h2
    have hj : i.2.toNat < K.2.2.1 := by omega
    obtain ⟨b1, b2, b3⟩ := zH_in g.2.2.2.1 a2 hK hj
    rw [hz _ (by omega)] at b1 b2 b3
    have ok : yok Θ (0, h a.2.toNat i.2.toNat) := by
      unfold yok
      rw [if_pos (by simp)]
      exact b1
    have w := yr_bin g ok (h4 b2 b3) k
    rw [List.map_cons, List.map_cons, a3, ex]
    rw [show yvo η (0, h a.2.toNat i.2.toNat) = .int (Int32.ofInt (h a.2.toNat i.2.toNat)) from rfl, ← hx] at w
    rcases hKf with ⟨f1, f2, hd⟩ | ⟨f1, f2, hd⟩
    · exact hw_iald X a2 hK ⟨f1, f2⟩ ⟨by omega, by omega⟩ g.2.2.2.1 hd w
    · exact hw_bald X a2 hK ⟨f1, f2⟩ ⟨by omega, by omega⟩ g.2.2.2.1 hd w
  · exact hp.elim
theorem yr_iald (X : hCx D cl cy L p s m args c cc nL tys Ts own) {kk n : Nat} {lo hi : Int} (hk : yad kds kk 0 n lo hi = true) (hd : decode cc pc = .ok (.iaload, 1)) (k : yGo η kds D cl cy L Θ nL p l e R s m args below meth c Q (pc + 1) (P)) : yGo η kds D cl cy L Θ nL p l e R s m args below meth c Q (pc) (yAld kk n (fun _ => lo) (fun _ => hi) P) := by
  obtain ⟨K, e1, e2, e3, e4, -⟩ := y_ad hk
  exact yr_aldK X e1 e3 (fun j _ => e4 j) (Or.inl ⟨e2.1, e2.2, hd⟩) k
theorem yr_bald (X : hCx D cl cy L p s m args c cc nL tys Ts own) {kk ty n : Nat} {lo hi : Int} (hty : ty = 1 ∨ ty = 2) (hk : yad kds kk ty n lo hi = true) (hd : decode cc pc = .ok (.baload, 1)) (k : yGo η kds D cl cy L Θ nL p l e R s m args below meth c Q (pc + 1) (P)) : yGo η kds D cl cy L Θ nL p l e R s m args below meth c Q (pc) (yAld kk n (fun _ => lo) (fun _ => hi) P) := by
  obtain ⟨K, e1, e2, e3, e4, -⟩ := y_ad hk
  exact yr_aldK X e1 e3 (fun j _ => e4 j) (Or.inr ⟨e2.1, by rw [e2.2]; exact hty, hd⟩) k
theorem yr_ialdK (X : hCx D cl cy L p s m args c cc nL tys Ts own) {kk n : Nat} {K : zKD} (hk : yak kds kk n K) (hd : decode cc pc = .ok (.iaload, 1)) (k : yGo η kds D cl cy L Θ nL p l e R s m args below meth c Q (pc + 1) (P)) : yGo η kds D cl cy L Θ nL p l e R s m args below meth c Q (pc) (yAld kk n (fun j => (zty K j).2.1) (fun j => (zty K j).2.2) P) := by
  obtain ⟨e1, e2, e3, e4⟩ := hk
  exact yr_aldK X e1 e3 (fun j hj => by
    have := e4 j hj
    generalize zty K j = tt at this
    obtain ⟨t, x, y⟩ := tt
    simp only at this ⊢
    rw [this]) (Or.inl ⟨e2.1, e2.2, hd⟩) k
theorem yr_aldq (X : hCx D cl cy L p s m args c cc nL tys Ts own) {kk n k2 : Nat} (hk : yqd kds kk n (k2 + 100002) = true) (hd : decode cc pc = .ok (.aaload, 1)) (k : yGo η kds D cl cy L Θ nL p l e R s m args below meth c Q (pc + 1) (P)) : yGo η kds D cl cy L Θ nL p l e R s m args below meth c Q (pc) (yAldq Θ kk n k2 P) := by
  intro loc st h H locs ls hp g
  unfold yAldq at hp
  split at hp
  · rename_i i a st'
    obtain ⟨⟨h1, h2⟩, h3, h4⟩ := hp
    unfold yqd at hk
    split at hk
    · rename_i K hK
      simp only [Bool.and_eq_true, decide_eq_true_eq] at hk
      obtain ⟨⟨⟨f1, f2⟩, f3⟩, f4⟩ := hk
      have hjn : i.2.toNat < n := by omega
      have f5 := List.all_eq_true.mp f4 i.2.toNat (List.mem_range.mpr hjn)
      simp only [Bool.and_eq_true, decide_eq_true_eq] at f5
      obtain ⟨a1, a2, a3⟩ := y_ref (η := η) (g.2.2.1 a (List.mem_cons_of_mem _ List.mem_cons_self)) h1
      obtain ⟨x, ex, hx⟩ := y_int (η := η) (g.2.2.1 i List.mem_cons_self) h2
      have ok := y_slot g.2.2.2.1 a2 hK (by omega : i.2.toNat < K.2.2.1) f5.1.2
      rw [f5.1.1] at ok
      obtain ⟨c1, c2, -⟩ := y_ref (η := η) ok rfl
      have w := k loc ((k2 + 100002, h a.2.toNat i.2.toNat) :: st') h H locs ls (h4 c1 c2) (yg_st g (fun q hq => by
        rcases List.mem_cons.mp hq with rfl | hq
        · exact ok
        · exact g.2.2.1 q (List.mem_cons_of_mem _ (List.mem_cons_of_mem _ hq))))
      rw [List.map_cons, ← f5.1.1, y_svo, z_dq f5.2] at w
      obtain ⟨hexec, hb, hml, hts, hown, hKa, hT, hnd⟩ := X
      obtain ⟨q0, hq⟩ := zH_get g.2.2.2.1 a2 hK (by omega)
      rw [zE_q f1] at hq
      obtain ⟨v1, v2⟩ := z_vin (i := x) (n := K.2.2.1) (by omega) (by omega)
      obtain ⟨C, hC⟩ := hT.2.2.2 K.2.1 f2.1 f2.2
      rw [List.map_cons, List.map_cons, a3, ex]
      refine va_aldq hexec hb hKa g.2.2.2.1.1 q0 K.2.1 hq hC v1 hd ?_
      rw [v2, hx]
      exact w
    · cases hk
  · exact hp.elim
/-- an element is written -/
theorem yr_astK (X : hCx D cl cy L p s m args c cc nL tys Ts own) {kk n : Nat} {K : zKD} {lo hi : Nat → Int} (hK : kds[kk]? = some K) (hn : K.2.2.1 = n) (hz : ∀ j, j < n → zty K j = (0, lo j, hi j)) (hKf : (K.1 = 1 ∧ K.2.1 = 0 ∧ decode cc pc = .ok (.iastore, 1)) ∨ (K.1 = 1 ∧ K.2.1 = 1 ∧ (∀ j, -128 ≤ lo j ∧ hi j ≤ 127) ∧ decode cc pc = .ok (.bastore, 1)) ∨ (K.1 = 1 ∧ K.2.1 = 2 ∧ (∀ j, 0 ≤ lo j ∧ hi j ≤ 1) ∧ decode cc pc = .ok (.bastore, 1))) (k : yGo η kds D cl cy L Θ nL p l e R s m args below meth c Q (pc + 1) (P)) : yGo η kds D cl cy L Θ nL p l e R s m args below meth c Q (pc) (yAst kk n lo hi P) := by
  intro loc st h H locs ls hp g
  unfold yAst at hp
  split at hp
  · rename_i v i a st'
    obtain ⟨⟨h1, h2, h5⟩, h3, h6, h4⟩ := hp
    have gv := g.2.2.1 v List.mem_cons_self
    obtain ⟨a1, a2, a3⟩ := y_ref (η := η) (g.2.2.1 a (List.mem_cons_of_mem _ (List.mem_cons_of_mem _ List.mem_cons_self))) h1
    obtain ⟨x, ex, hx⟩ := y_int (η := η) (g.2.2.1 i (List.mem_cons_of_mem _ List.mem_cons_self)) h2
    obtain ⟨y, ey, hy⟩ := y_int (η := η) gv h5
    have hD : va_D (fun q => q ∈ L) ([] ++ va_pl L (zF η kds cy Θ h)) := z_D X.2.2.2.2.2.2.2 (fun a ha => ha)
    obtain ⟨q0, hq⟩ := zH_get g.2.2.2.1 a2 hK (by omega)
    have hq1 := hq
    have hK1 : K.1 = 1 := by rcases hKf with q | q | q <;> exact q.1
    rw [zE_i hK1] at hq1
    obtain ⟨v1, v2⟩ := z_vin (i := x) (n := K.2.2.1) (by omega) (by omega)
    have fin : ∀ (H1 : Heap) (locs1 : List Loc), va_P D cl (([] ++ va_pl L (zF η kds cy Θ h)).set q0 (η.1 a.2.toNat, .inl (cy K.2.1, K.2.2.1, .inl (upd (fun j => Int32.ofInt (h a.2.toNat j)) i.2.toNat y)))) H1 → va_S (fun q => q ∈ L) s.heap H1 locs1 → W p l e R s m args below meth c H1 locs1 0 0 Q (F0 m (pc + 1) ls (st'.map (yvo η))) := by
      intro H1 locs1 hP1 hS1
      refine k loc st' _ H1 locs1 ls h4 ⟨g.1, g.2.1, fun q hq => g.2.2.1 q (List.mem_cons_of_mem _ (List.mem_cons_of_mem _ (List.mem_cons_of_mem _ hq))), ?_, hS1⟩
      refine zH_put g.2.2.2.1 hD a2 hK (by omega) (by omega) ?_ hq ?_
      · rw [hz _ (by omega)]
        refine ⟨?_, h6.1, h6.2⟩
        rw [← hy]
        exact ⟨z_lo y, z_hi y⟩
      · rw [zE_i hK1]
        have ef : (fun j => Int32.ofInt (zup h a.2.toNat i.2.toNat v.2 a.2.toNat j)) = upd (fun j => Int32.ofInt (h a.2.toNat j)) i.2.toNat y := by
          funext j
          unfold upd
          split
          · rename_i e
            subst e
            rw [zup_at, ← hy, z_ofi]
          · rename_i e
            rw [zup_ne (fun q => e q.2)]
        rw [ef]
        exact hP1
    rw [List.map_cons, List.map_cons, List.map_cons, a3, ex, ey]
    obtain ⟨hexec, hb, hml, hts, hown, hKa, hT, hnd⟩ := X
    rcases hKf with ⟨-, e0, hd⟩ | ⟨-, e0, bb, hd⟩ | ⟨-, e0, bb, hd⟩
    · rw [e0] at hq1 fin
      refine va_iast hexec hb hKa g.2.2.2.1.1 hD g.2.2.2.2 q0 0 hq1 hT.1 v1 hd (fun H1 locs1 hP1 _ hS1 => ?_)
      rw [v2, hx] at hP1
      exact fin H1 locs1 hP1 hS1
    · rw [e0] at hq1 fin
      have b2 := bb i.2.toNat
      refine va_bast hexec hb hKa g.2.2.2.1.1 hD g.2.2.2.2 q0 1 hq1 hT.2.1 v1 hd (fun H1 locs1 hP1 _ hS1 => ?_)
      rw [v2, hx, z_narb (by omega) (by omega)] at hP1
      exact fin H1 locs1 hP1 hS1
    · rw [e0] at hq1 fin
      have b2 := bb i.2.toNat
      refine va_zast hexec hb hKa g.2.2.2.1.1 hD g.2.2.2.2 q0 2 hq1 hT.2.2.1 v1 hd (fun H1 locs1 hP1 _ hS1 => ?_)
      rw [v2, hx, z_narz (by omega) (by omega)] at hP1
      exact fin H1 locs1 hP1 hS1
  · exact hp.elim
theorem yr_iast (X : hCx D cl cy L p s m args c cc nL tys Ts own) {kk n : Nat} {lo hi : Int} (hk : yad kds kk 0 n lo hi = true) (hd : decode cc pc = .ok (.iastore, 1)) (k : yGo η kds D cl cy L Θ nL p l e R s m args below meth c Q (pc + 1) (P)) : yGo η kds D cl cy L Θ nL p l e R s m args below meth c Q (pc) (yAst kk n (fun _ => lo) (fun _ => hi) P) := by
  obtain ⟨K, e1, e2, e3, e4, -⟩ := y_ad hk
  exact yr_astK X e1 e3 (fun j _ => e4 j) (Or.inl ⟨e2.1, e2.2, hd⟩) k
theorem yr_bast (X : hCx D cl cy L p s m args c cc nL tys Ts own) {kk n : Nat} {lo hi : Int} (hk : yad kds kk 1 n lo hi = true) (hd : decode cc pc = .ok (.bastore, 1)) (k : yGo η kds D cl cy L Θ nL p l e R s m args below meth c Q (pc + 1) (P)) : yGo η kds D cl cy L Θ nL p l e R s m args below meth c Q (pc) (yAst kk n (fun _ => lo) (fun _ => hi) P) := by
  obtain ⟨K, e1, e2, e3, e4, e5, -⟩ := y_ad hk
  exact yr_astK X e1 e3 (fun j _ => e4 j) (Or.inr (Or.inl ⟨e2.1, e2.2, fun _ => by rcases e5 with q | q | q <;> omega, hd⟩)) k
theorem yr_zast (X : hCx D cl cy L p s m args c cc nL tys Ts own) {kk n : Nat} {lo hi : Int} (hk : yad kds kk 2 n lo hi = true) (hd : decode cc pc = .ok (.bastore, 1)) (k : yGo η kds D cl cy L Θ nL p l e R s m args below meth c Q (pc + 1) (P)) : yGo η kds D cl cy L Θ nL p l e R s m args below meth c Q (pc) (yAst kk n (fun _ => lo) (fun _ => hi) P) := by
  obtain ⟨K, e1, e2, e3, e4, e5, -⟩ := y_ad hk
  exact yr_astK X e1 e3 (fun j _ => e4 j) (Or.inr (Or.inr ⟨e2.1, e2.2, fun _ => by rcases e5 with q | q | q <;> omega, hd⟩)) k
theorem yr_iastK (X : hCx D cl cy L p s m args c cc nL tys Ts own) {kk n : Nat} {K : zKD} (hk : yak kds kk n K) (hd : decode cc pc = .ok (.iastore, 1)) (k : yGo η kds D cl cy L Θ nL p l e R s m args below meth c Q (pc + 1) (P)) : yGo η kds D cl cy L Θ nL p l e R s m args below meth c Q (pc) (yAst kk n (fun j => (zty K j).2.1) (fun j => (zty K j).2.2) P) := by
  obtain ⟨e1, e2, e3, e4⟩ := hk
  exact yr_astK X e1 e3 (fun j hj => by
    have := e4 j hj
    generalize zty K j = tt at this
    obtain ⟨t, x, y⟩ := tt
    simp only at this ⊢
    rw [this]) (Or.inl ⟨e2.1, e2.2, hd⟩) k
theorem yr_len (X : hCx D cl cy L p s m args c cc nL tys Ts own) {kk ty n : Nat} {lo hi : Int} (hk : yad kds kk ty n lo hi = true) (hn : n ≤ 2147483647) (hd : decode cc pc = .ok (.arraylength, 1)) (k : yGo η kds D cl cy L Θ nL p l e R s m args below meth c Q (pc + 1) (P)) : yGo η kds D cl cy L Θ nL p l e R s m args below meth c Q (pc) (yLen kk (n : Int) P) := by
  intro loc st h H locs ls hp g
  unfold yLen at hp
  split at hp
  · rename_i a st'
    obtain ⟨K, e1, e2, e3, e4, e5, -⟩ := y_ad hk
    obtain ⟨a1, a2, a3⟩ := y_ref (η := η) (g.2.2.1 a List.mem_cons_self) hp.1
    have w := yr_un g (t := 0) (y_i (Θ := Θ) (by omega) (by omega)) hp.2 k
    obtain ⟨hexec, hb, hml, hts, hown, hKa, hT, hnd⟩ := X
    obtain ⟨q0, hq⟩ := zH_get g.2.2.2.1 a2 e1 (by omega)
    rw [zE_i e2.1, e3] at hq
    have ht : ∃ t9, tys[K.2.1]? = some (cy K.2.1, t9) := by
      have : K.2.1 = 0 ∨ K.2.1 = 1 ∨ K.2.1 = 2 := by rw [e2.2]; rcases e5 with q | q | q <;> omega
      rcases this with e0 | e0 | e0 <;> rw [e0]
      · exact ⟨_, hT.1⟩
      · exact ⟨_, hT.2.1⟩
      · exact ⟨_, hT.2.2.1⟩
    obtain ⟨t9, ht⟩ := ht
    rw [List.map_cons, a3]
    exact va_alen (v := Int32.ofInt (n : Int)) hexec hb hKa g.2.2.2.1.1 q0 K.2.1 hq ht Int32.ofInt_eq_ofNat.symm hd w
  · exact hp.elim
/-- jumps -/
theorem yr_goto (X : hCx D cl cy L p s m args c cc nL tys Ts own) {off : Int} {tgt : Nat} (hd : decode cc pc = .ok (.goto off, 3)) (ht : (pc : Int) + off = (tgt : Int)) (k : yGo η kds D cl cy L Θ nL p l e R s m args below meth c Q (tgt) (P)) : yGo η kds D cl cy L Θ nL p l e R s m args below meth c Q (pc) (P) :=
  fun loc st h H locs ls hp g => lv_goto X.1 X.2.1 hd ht (k loc st h H locs ls hp g)
theorem yr_if2 (X : hCx D cl cy L p s m args c cc nL tys Ts own) {cd : Jvm.ClassFile.Cond} {off : Int} {tgt : Nat} (hd : decode cc pc = .ok (.if_icmp cd off, 3)) (ht : (pc : Int) + off = (tgt : Int)) {Pc : yP} (hc : ∀ (loc : yL) (st : List yV) (h : yH), Pc loc st h → ∃ (b a : yV) (st' : List yV), st = b :: a :: st' ∧ (a.1 = 0 ∧ b.1 = 0) ∧ (zcmp (zcn cd) a.2 b.2 → P1 loc st' h) ∧ (¬ zcmp (zcn cd) a.2 b.2 → P2 loc st' h)) (k1 : yGo η kds D cl cy L Θ nL p l e R s m args below meth c Q (tgt) (P1)) (k2 : yGo η kds D cl cy L Θ nL p l e R s m args below meth c Q (pc + 3) (P2)) : yGo η kds D cl cy L Θ nL p l e R s m args below meth c Q (pc) (Pc) := by
  intro loc st h H locs ls hp g
  obtain ⟨b, a, st', rfl, ⟨h1, h2⟩, h3, h4⟩ := hc loc st h hp
  obtain ⟨x, ex, hx⟩ := y_int (η := η) (g.2.2.1 a (List.mem_cons_of_mem _ List.mem_cons_self)) h1
  obtain ⟨y, ey, hy⟩ := y_int (η := η) (g.2.2.1 b List.mem_cons_self) h2
  have gs : ∀ q ∈ st', yok Θ q := fun q hq => g.2.2.1 q (List.mem_cons_of_mem _ (List.mem_cons_of_mem _ hq))
  rw [List.map_cons, List.map_cons, ex, ey]
  exact z_icmp X.1 X.2.1 hd ht (fun q => k1 loc st' h H locs ls (h3 (by rw [← hx, ← hy]; exact q)) (yg_st g gs)) (fun q => k2 loc st' h H locs ls (h4 (by rw [← hx, ← hy]; exact q)) (yg_st g gs))
theorem yr_if1 (X : hCx D cl cy L p s m args c cc nL tys Ts own) {cd : Jvm.ClassFile.Cond} {off : Int} {tgt : Nat} (hd : decode cc pc = .ok (.ifCond cd off, 3)) (ht : (pc : Int) + off = (tgt : Int)) {Pc : yP} (hc : ∀ (loc : yL) (st : List yV) (h : yH), Pc loc st h → ∃ (a : yV) (st' : List yV), st = a :: st' ∧ a.1 = 0 ∧ (zcmp (zcn cd) a.2 0 → P1 loc st' h) ∧ (¬ zcmp (zcn cd) a.2 0 → P2 loc st' h)) (k1 : yGo η kds D cl cy L Θ nL p l e R s m args below meth c Q (tgt) (P1)) (k2 : yGo η kds D cl cy L Θ nL p l e R s m args below meth c Q (pc + 3) (P2)) : yGo η kds D cl cy L Θ nL p l e R s m args below meth c Q (pc) (Pc) := by
  intro loc st h H locs ls hp g
  obtain ⟨a, st', rfl, h1, h3, h4⟩ := hc loc st h hp
  obtain ⟨x, ex, hx⟩ := y_int (η := η) (g.2.2.1 a List.mem_cons_self) h1
  have gs : ∀ q ∈ st', yok Θ q := fun q hq => g.2.2.1 q (List.mem_cons_of_mem _ hq)
  rw [List.map_cons, ex]
  exact z_ic0 X.1 X.2.1 hd ht (fun q => k1 loc st' h H locs ls (h3 (by rw [← hx]; exact q)) (yg_st g gs)) (fun q => k2 loc st' h H locs ls (h4 (by rw [← hx]; exact q)) (yg_st g gs))
theorem yr_lt (X : hCx D cl cy L p s m args c cc nL tys Ts own) {off : Int} {tgt : Nat} (hd : decode cc pc = .ok (.if_icmp .lt off, 3)) (ht : (pc : Int) + off = (tgt : Int)) (k1 : yGo η kds D cl cy L Θ nL p l e R s m args below meth c Q (tgt) (P1)) (k2 : yGo η kds D cl cy L Θ nL p l e R s m args below meth c Q (pc + 3) (P2)) : yGo η kds D cl cy L Θ nL p l e R s m args below meth c Q (pc) (yLt P1 P2) := by
  refine yr_if2 X hd ht (fun loc st h hp => ?_) k1 k2
  unfold yLt at hp
  split at hp
  · rename_i b a st'
    refine ⟨b, a, st', rfl, hp.1, fun q => ?_, fun q => ?_⟩
    · have h3 := hp.2
      unfold zcmp zcn at q
      simp only at q
      split at h3
      · first | exact h3 | (exfalso; omega)
      · first | exact h3 | (exfalso; omega)
    · have h3 := hp.2
      unfold zcmp zcn at q
      simp only at q
      split at h3
      · first | exact h3 | (exfalso; omega)
      · first | exact h3 | (exfalso; omega)
  · exact hp.elim
theorem yr_ge (X : hCx D cl cy L p s m args c cc nL tys Ts own) {off : Int} {tgt : Nat} (hd : decode cc pc = .ok (.if_icmp .ge off, 3)) (ht : (pc : Int) + off = (tgt : Int)) (k1 : yGo η kds D cl cy L Θ nL p l e R s m args below meth c Q (tgt) (P1)) (k2 : yGo η kds D cl cy L Θ nL p l e R s m args below meth c Q (pc + 3) (P2)) : yGo η kds D cl cy L Θ nL p l e R s m args below meth c Q (pc) (yLt P2 P1) := by
  refine yr_if2 X hd ht (fun loc st h hp => ?_) k1 k2
  unfold yLt at hp
  split at hp
  · rename_i b a st'
    refine ⟨b, a, st', rfl, hp.1, fun q => ?_, fun q => ?_⟩
    · have h3 := hp.2
      unfold zcmp zcn at q
      simp only at q
      split at h3
      · first | exact h3 | (exfalso; omega)
      · first | exact h3 | (exfalso; omega)
    · have h3 := hp.2
      unfold zcmp zcn at q
      simp only at q
      split at h3
      · first | exact h3 | (exfalso; omega)
      · first | exact h3 | (exfalso; omega)
  · exact hp.elim
theorem yr_gt (X : hCx D cl cy L p s m args c cc nL tys Ts own) {off : Int} {tgt : Nat} (hd : decode cc pc = .ok (.if_icmp .gt off, 3)) (ht : (pc : Int) + off = (tgt : Int)) (k1 : yGo η kds D cl cy L Θ nL p l e R s m args below meth c Q (tgt) (P1)) (k2 : yGo η kds D cl cy L Θ nL p l e R s m args below meth c Q (pc + 3) (P2)) : yGo η kds D cl cy L Θ nL p l e R s m args below meth c Q (pc) (yGt P1 P2) := by
  refine yr_if2 X hd ht (fun loc st h hp => ?_) k1 k2
  unfold yGt at hp
  split at hp
  · rename_i b a st'
    refine ⟨b, a, st', rfl, hp.1, fun q => ?_, fun q => ?_⟩
    · have h3 := hp.2
      unfold zcmp zcn at q
      simp only at q
      split at h3
      · first | exact h3 | (exfalso; omega)
      · first | exact h3 | (exfalso; omega)
    · have h3 := hp.2
      unfold zcmp zcn at q
      simp only at q
      split at h3
      · first | exact h3 | (exfalso; omega)
      · first | exact h3 | (exfalso; omega)
  · exact hp.elim
theorem yr_le (X : hCx D cl cy L p s m args c cc nL tys Ts own) {off : Int} {tgt : Nat} (hd : decode cc pc = .ok (.if_icmp .le off, 3)) (ht : (pc : Int) + off = (tgt : Int)) (k1 : yGo η kds D cl cy L Θ nL p l e R s m args below meth c Q (tgt) (P1)) (k2 : yGo η kds D cl cy L Θ nL p l e R s m args below meth c Q (pc + 3) (P2)) : yGo η kds D cl cy L Θ nL p l e R s m args below meth c Q (pc) (yGt P2 P1) := by
  refine yr_if2 X hd ht (fun loc st h hp => ?_) k1 k2
  unfold yGt at hp
  split at hp
  · rename_i b a st'
    refine ⟨b, a, st', rfl, hp.1, fun q => ?_, fun q => ?_⟩
    · have h3 := hp.2
      unfold zcmp zcn at q
      simp only at q
      split at h3
      · first | exact h3 | (exfalso; omega)
      · first | exact h3 | (exfalso; omega)
    · have h3 := hp.2
      unfold zcmp zcn at q
      simp only at q
      split at h3
      · first | exact h3 | (exfalso; omega)
      · first | exact h3 | (exfalso; omega)
  · exact hp.elim
theorem yr_eq (X : hCx D cl cy L p s m args c cc nL tys Ts own) {off : Int} {tgt : Nat} (hd : decode cc pc = .ok (.if_icmp .eq off, 3)) (ht : (pc : Int) + off = (tgt : Int)) (k1 : yGo η kds D cl cy L Θ nL p l e R s m args below meth c Q (tgt) (P1)) (k2 : yGo η kds D cl cy L Θ nL p l e R s m args below meth c Q (pc + 3) (P2)) : yGo η kds D cl cy L Θ nL p l e R s m args below meth c Q (pc) (yEq P1 P2) := by
  refine yr_if2 X hd ht (fun loc st h hp => ?_) k1 k2
  unfold yEq at hp
  split at hp
  · rename_i b a st'
    refine ⟨b, a, st', rfl, hp.1, fun q => ?_, fun q => ?_⟩
    · have h3 := hp.2
      unfold zcmp zcn at q
      simp only at q
      split at h3
      · first | exact h3 | (exfalso; omega)
      · first | exact h3 | (exfalso; omega)
    · have h3 := hp.2
      unfold zcmp zcn at q
      simp only at q
      split at h3
      · first | exact h3 | (exfalso; omega)
      · first | exact h3 | (exfalso; omega)
  · exact hp.elim
theorem yr_ne (X : hCx D cl cy L p s m args c cc nL tys Ts own) {off : Int} {tgt : Nat} (hd : decode cc pc = .ok (.if_icmp .ne off, 3)) (ht : (pc : Int) + off = (tgt : Int)) (k1 : yGo η kds D cl cy L Θ nL p l e R s m args below meth c Q (tgt) (P1)) (k2 : yGo η kds D cl cy L Θ nL p l e R s m args below meth c Q (pc + 3) (P2)) : yGo η kds D cl cy L Θ nL p l e R s m args below meth c Q (pc) (yEq P2 P1) := by
  refine yr_if2 X hd ht (fun loc st h hp => ?_) k1 k2
  unfold yEq at hp
  split at hp
  · rename_i b a st'
    refine ⟨b, a, st', rfl, hp.1, fun q => ?_, fun q => ?_⟩
    · have h3 := hp.2
      unfold zcmp zcn at q
      simp only at q
      split at h3
      · first | exact h3 | (exfalso; omega)
      · first | exact h3 | (exfalso; omega)
    · have h3 := hp.2
      unfold zcmp zcn at q
      simp only at q
      split at h3
      · first | exact h3 | (exfalso; omega)
      · first | exact h3 | (exfalso; omega)
  · exact hp.elim
theorem yr_lt0 (X : hCx D cl cy L p s m args c cc nL tys Ts own) {off : Int} {tgt : Nat} (hd : decode cc pc = .ok (.ifCond .lt off, 3)) (ht : (pc : Int) + off = (tgt : Int)) (k1 : yGo η kds D cl cy L Θ nL p l e R s m args below meth c Q (tgt) (P1)) (k2 : yGo η kds D cl cy L Θ nL p l e R s m args below meth c Q (pc + 3) (P2)) : yGo η kds D cl cy L Θ nL p l e R s m args below meth c Q (pc) (yLt0 P1 P2) := by
  refine yr_if1 X hd ht (fun loc st h hp => ?_) k1 k2
  unfold yLt0 at hp
  split at hp
  · rename_i a st'
    refine ⟨a, st', rfl, hp.1, fun q => ?_, fun q => ?_⟩
    · have h3 := hp.2
      unfold zcmp zcn at q
      simp only at q
      split at h3
      · first | exact h3 | (exfalso; omega)
      · first | exact h3 | (exfalso; omega)
    · have h3 := hp.2
      unfold zcmp zcn at q
      simp only at q
      split at h3
      · first | exact h3 | (exfalso; omega)
      · first | exact h3 | (exfalso; omega)
  · exact hp.elim
theorem yr_ge0 (X : hCx D cl cy L p s m args c cc nL tys Ts own) {off : Int} {tgt : Nat} (hd : decode cc pc = .ok (.ifCond .ge off, 3)) (ht : (pc : Int) + off = (tgt : Int)) (k1 : yGo η kds D cl cy L Θ nL p l e R s m args below meth c Q (tgt) (P1)) (k2 : yGo η kds D cl cy L Θ nL p l e R s m args below meth c Q (pc + 3) (P2)) : yGo η kds D cl cy L Θ nL p l e R s m args below meth c Q (pc) (yLt0 P2 P1) := by
  refine yr_if1 X hd ht (fun loc st h hp => ?_) k1 k2
  unfold yLt0 at hp
  split at hp
  · rename_i a st'
    refine ⟨a, st', rfl, hp.1, fun q => ?_, fun q => ?_⟩
    · have h3 := hp.2
      unfold zcmp zcn at q
      simp only at q
      split at h3
      · first | exact h3 | (exfalso; omega)
      · first | exact h3 | (exfalso; omega)
    · have h3 := hp.2
      unfold zcmp zcn at q
      simp only at q
      split at h3
      · first | exact h3 | (exfalso; omega)
      · first | exact h3 | (exfalso; omega)
  · exact hp.elim
theorem yr_le0 (X : hCx D cl cy L p s m args c cc nL tys Ts own) {off : Int} {tgt : Nat} (hd : decode cc pc = .ok (.ifCond .le off, 3)) (ht : (pc : Int) + off = (tgt : Int)) (k1 : yGo η kds D cl cy L Θ nL p l e R s m args below meth c Q (tgt) (P1)) (k2 : yGo η kds D cl cy L Θ nL p l e R s m args below meth c Q (pc + 3) (P2)) : yGo η kds D cl cy L Θ nL p l e R s m args below meth c Q (pc) (yGt0 P2 P1) := by
  refine yr_if1 X hd ht (fun loc st h hp => ?_) k1 k2
  unfold yGt0 at hp
  split at hp
  · rename_i a st'
    refine ⟨a, st', rfl, hp.1, fun q => ?_, fun q => ?_⟩
    · have h3 := hp.2
      unfold zcmp zcn at q
      simp only at q
      split at h3
      · first | exact h3 | (exfalso; omega)
      · first | exact h3 | (exfalso; omega)
    · have h3 := hp.2
      unfold zcmp zcn at q
      simp only at q
      split at h3
      · first | exact h3 | (exfalso; omega)
      · first | exact h3 | (exfalso; omega)
  · exact hp.elim
theorem yr_eq0 (X : hCx D cl cy L p s m args c cc nL tys Ts own) {off : Int} {tgt : Nat} (hd : decode cc pc = .ok (.ifCond .eq off, 3)) (ht : (pc : Int) + off = (tgt : Int)) (k1 : yGo η kds D cl cy L Θ nL p l e R s m args below meth c Q (tgt) (P1)) (k2 : yGo η kds D cl cy L Θ nL p l e R s m args below meth c Q (pc + 3) (P2)) : yGo η kds D cl cy L Θ nL p l e R s m args below meth c Q (pc) (yEq0 P1 P2) := by
  refine yr_if1 X hd ht (fun loc st h hp => ?_) k1 k2
  unfold yEq0 at hp
  split at hp
  · rename_i a st'
    refine ⟨a, st', rfl, hp.1, fun q => ?_, fun q => ?_⟩
    · have h3 := hp.2
      unfold zcmp zcn at q
      simp only at q
      split at h3
      · first | exact h3 | (exfalso; omega)
      · first | exact h3 | (exfalso; omega)
    · have h3 := hp.2
      unfold zcmp zcn at q
      simp only at q
      split at h3
      · first | exact h3 | (exfalso; omega)
      · first | exact h3 | (exfalso; omega)
  · exact hp.elim
theorem yr_ne0 (X : hCx D cl cy L p s m args c cc nL tys Ts own) {off : Int} {tgt : Nat} (hd : decode cc pc = .ok (.ifCond .ne off, 3)) (ht : (pc : Int) + off = (tgt : Int)) (k1 : yGo η kds D cl cy L Θ nL p l e R s m args below meth c Q (tgt) (P1)) (k2 : yGo η kds D cl cy L Θ nL p l e R s m args below meth c Q (pc + 3) (P2)) : yGo η kds D cl cy L Θ nL p l e R s m args below meth c Q (pc) (yEq0 P2 P1) := by
  refine yr_if1 X hd ht (fun loc st h hp => ?_) k1 k2
  unfold yEq0 at hp
  split at hp
  · rename_i a st'
    refine ⟨a, st', rfl, hp.1, fun q => ?_, fun q => ?_⟩
    · have h3 := hp.2
      unfold zcmp zcn at q
      simp only at q
      split at h3
      · first | exact h3 | (exfalso; omega)
      · first | exact h3 | (exfalso; omega)
    · have h3 := hp.2
      unfold zcmp zcn at q
      simp only at q
      split at h3
      · first | exact h3 | (exfalso; omega)
      · first | exact h3 | (exfalso; omega)
  · exact hp.elim
theorem yr_leq (X : hCx D cl cy L p s m args c cc nL tys Ts own) {off : Int} {tgt : Nat} (hd : decode cc pc = .ok (.lcmp, 1)) (hd2 : decode cc (pc + 1) = .ok (.ifCond .eq off, 3)) (ht : ((pc + 1 : Nat) : Int) + off = (tgt : Int)) (k1 : yGo η kds D cl cy L Θ nL p l e R s m args below meth c Q (tgt) (P1)) (k2 : yGo η kds D cl cy L Θ nL p l e R s m args below meth c Q (pc + 1 + 3) (P2)) : yGo η kds D cl cy L Θ nL p l e R s m args below meth c Q (pc) (yLEq P1 P2) := by
  intro loc st h H locs ls hp g
  unfold yLEq at hp
  split at hp
  · rename_i b a st'
    obtain ⟨⟨h1, h2⟩, h3⟩ := hp
    obtain ⟨x, ex, hx⟩ := y_long (η := η) (g.2.2.1 a (List.mem_cons_of_mem _ List.mem_cons_self)) h1
    obtain ⟨y, ey, hy⟩ := y_long (η := η) (g.2.2.1 b List.mem_cons_self) h2
    have gs : ∀ q ∈ st', yok Θ q := fun q hq => g.2.2.1 q (List.mem_cons_of_mem _ (List.mem_cons_of_mem _ hq))
    rw [List.map_cons, List.map_cons, ex, ey]
    refine W.lcmp X.1 X.2.1 hd ?_
    refine z_ic0 X.1 X.2.1 hd2 ht (fun q => ?_) (fun q => ?_)
    · rw [z_lc, hx, hy] at q
      rw [if_pos (show a.2 = b.2 from q)] at h3
      exact k1 loc st' h H locs ls h3 (yg_st g gs)
    · rw [z_lc, hx, hy] at q
      rw [if_neg (show ¬ a.2 = b.2 from q)] at h3
      exact k2 loc st' h H locs ls h3 (yg_st g gs)
  · exact hp.elim
theorem yr_lne (X : hCx D cl cy L p s m args c cc nL tys Ts own) {off : Int} {tgt : Nat} (hd : decode cc pc = .ok (.lcmp, 1)) (hd2 : decode cc (pc + 1) = .ok (.ifCond .ne off, 3)) (ht : ((pc + 1 : Nat) : Int) + off = (tgt : Int)) (k1 : yGo η kds D cl cy L Θ nL p l e R s m args below meth c Q (tgt) (P1)) (k2 : yGo η kds D cl cy L Θ nL p l e R s m args below meth c Q (pc + 1 + 3) (P2)) : yGo η kds D cl cy L Θ nL p l e R s m args below meth c Q (pc) (yLEq P2 P1) := by
  intro loc st h H locs ls hp g
  unfold yLEq at hp
  split at hp
  · rename_i b a st'
    obtain ⟨⟨h1, h2⟩, h3⟩ := hp
    obtain ⟨x, ex, hx⟩ := y_long (η := η) (g.2.2.1 a (List.mem_cons_of_mem _ List.mem_cons_self)) h1
    obtain ⟨y, ey, hy⟩ := y_long (η := η) (g.2.2.1 b List.mem_cons_self) h2
    have gs : ∀ q ∈ st', yok Θ q := fun q hq => g.2.2.1 q (List.mem_cons_of_mem _ (List.mem_cons_of_mem _ hq))
    rw [List.map_cons, List.map_cons, ex, ey]
    refine W.lcmp X.1 X.2.1 hd ?_
    refine z_ic0 X.1 X.2.1 hd2 ht (fun q => ?_) (fun q => ?_)
    · rw [z_lc, hx, hy] at q
      rw [if_neg (show ¬ a.2 = b.2 from q)] at h3
      exact k1 loc st' h H locs ls h3 (yg_st g gs)
    · rw [z_lc, hx, hy] at q
      have q' : a.2 = b.2 := Classical.byContradiction q
      rw [if_pos q'] at h3
      exact k2 loc st' h H locs ls h3 (yg_st g gs)
  · exact hp.elim
theorem yr_ifnull (X : hCx D cl cy L p s m args c cc nL tys Ts own) {off : Int} {tgt : Nat} (hd : decode cc pc = .ok (.ifnull off, 3)) (ht : (pc : Int) + off = (tgt : Int)) (k1 : yGo η kds D cl cy L Θ nL p l e R s m args below meth c Q (tgt) (P1)) (k2 : yGo η kds D cl cy L Θ nL p l e R s m args below meth c Q (pc + 3) (P2)) : yGo η kds D cl cy L Θ nL p l e R s m args below meth c Q (pc) (yNull P1 P2) := by
  intro loc st h H locs ls hp g
  unfold yNull at hp
  split at hp
  · rename_i a st'
    have gs : ∀ q ∈ st', yok Θ q := fun q hq => g.2.2.1 q (List.mem_cons_of_mem _ hq)
    rw [List.map_cons]
    rcases y_nul (η := η) (g.2.2.1 a List.mem_cons_self) hp.1 with ⟨h1, ex⟩ | ⟨h1, ex⟩
    · rw [ex]
      have h3 := hp.2
      rw [if_pos h1] at h3
      exact lv_ifnullN X.1 X.2.1 hd ht (k1 loc st' h H locs ls h3 (yg_st g gs))
    · rw [ex]
      have h3 := hp.2
      rw [if_neg (by omega)] at h3
      exact lv_ifnull X.1 X.2.1 hd (k2 loc st' h H locs ls h3 (yg_st g gs))
  · exact hp.elim
theorem yr_ifnonnull (X : hCx D cl cy L p s m args c cc nL tys Ts own) {off : Int} {tgt : Nat} (hd : decode cc pc = .ok (.ifnonnull off, 3)) (ht : (pc : Int) + off = (tgt : Int)) (k1 : yGo η kds D cl cy L Θ nL p l e R s m args below meth c Q (tgt) (P1)) (k2 : yGo η kds D cl cy L Θ nL p l e R s m args below meth c Q (pc + 3) (P2)) : yGo η kds D cl cy L Θ nL p l e R s m args below meth c Q (pc) (yNull P2 P1) := by
  intro loc st h H locs ls hp g
  unfold yNull at hp
  split at hp
  · rename_i a st'
    have gs : ∀ q ∈ st', yok Θ q := fun q hq => g.2.2.1 q (List.mem_cons_of_mem _ hq)
    rw [List.map_cons]
    rcases y_nul (η := η) (g.2.2.1 a List.mem_cons_self) hp.1 with ⟨h1, ex⟩ | ⟨h1, ex⟩
    · rw [ex]
      have h3 := hp.2
      rw [if_pos h1] at h3
      exact lv_ifnonnullN X.1 X.2.1 hd (k2 loc st' h H locs ls h3 (yg_st g gs))
    · rw [ex]
      have h3 := hp.2
      rw [if_neg (by omega)] at h3
      exact lv_ifnonnull X.1 X.2.1 hd ht (k1 loc st' h H locs ls h3 (yg_st g gs))
  · exact hp.elim
end YRH
