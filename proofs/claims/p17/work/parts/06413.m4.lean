section
variable {η : zRn}
/-! rows of the heap, of jumps, of ends -/
/-- what is said of a field: its class, its tag, its bounds -/
def yfd (kds : List zKD) (kk j ci t : Nat) (lo hi : Int) : Bool := match kds[kk]? with
  | some K => decide (K.1 = 0) && decide (K.2.1 = ci) && decide (j < K.2.2.1) && decide ((zty K j).1 < 100002) && decide (ytag (zty K j) = t) && decide ((zty K j).2.1 = lo) && decide ((zty K j).2.2 = hi)
  | none => false
theorem y_fd {kds : List zKD} {kk j ci t : Nat} {lo hi : Int} (h : yfd kds kk j ci t lo hi = true) : ∃ K, kds[kk]? = some K ∧ (K.1 = 0 ∧ K.2.1 = ci) ∧ j < K.2.2.1 ∧ (zty K j).1 < 100002 ∧ ytag (zty K j) = t ∧ (zty K j).2.1 = lo ∧ (zty K j).2.2 = hi := by
  unfold yfd at h
  split at h
  · rename_i K hK
    simp only [Bool.and_eq_true, decide_eq_true_eq] at h
    obtain ⟨⟨⟨⟨⟨⟨h1, h2⟩, h3⟩, h4⟩, h5⟩, h6⟩, h7⟩ := h
    exact ⟨K, hK, ⟨h1, h2⟩, h3, h4, h5, h6, h7⟩
  · cases h
/-- an array of numbers: its type, its length; all its elements between the same bounds -/
def yad (kds : List zKD) (kk ty n : Nat) (lo hi : Int) : Bool := match kds[kk]? with
  | some K => decide (K.1 = 1) && decide (K.2.1 = ty) && decide (K.2.2.1 = n) && decide (K.2.2.2 = [(0, lo, hi)]) && decide (ty = 0 ∨ (ty = 1 ∧ -128 ≤ lo ∧ hi ≤ 127) ∨ (ty = 2 ∧ 0 ≤ lo ∧ hi ≤ 1)) && decide (-2147483648 ≤ lo) && decide (hi ≤ 2147483647)
  | none => false
theorem y_ad {kds : List zKD} {kk ty n : Nat} {lo hi : Int} (h : yad kds kk ty n lo hi = true) : ∃ K, kds[kk]? = some K ∧ (K.1 = 1 ∧ K.2.1 = ty) ∧ K.2.2.1 = n ∧ (∀ j, zty K j = (0, lo, hi)) ∧ (ty = 0 ∨ (ty = 1 ∧ -128 ≤ lo ∧ hi ≤ 127) ∨ (ty = 2 ∧ 0 ≤ lo ∧ hi ≤ 1)) ∧ -2147483648 ≤ lo ∧ hi ≤ 2147483647 := by
  unfold yad at h
  split at h
  · rename_i K hK
    simp only [Bool.and_eq_true, decide_eq_true_eq] at h
    obtain ⟨⟨⟨⟨⟨⟨h1, h2⟩, h3⟩, h4⟩, h5⟩, h6⟩, h7⟩ := h
    refine ⟨K, hK, ⟨h1, h2⟩, h3, fun j => ?_, h5, h6, h7⟩
    unfold zty
    rw [h4]
    simp [Nat.mod_one]
  · cases h
/-- an array of ints with bounds of their own for each place -/
def yak (kds : List zKD) (kk n : Nat) (K : zKD) : Prop := kds[kk]? = some K ∧ (K.1 = 1 ∧ K.2.1 = 0) ∧ K.2.2.1 = n ∧ ∀ j, j < n → (zty K j).1 = 0
/-- an array of references -/
def yqd (kds : List zKD) (kk n t : Nat) : Bool := match kds[kk]? with
  | some K => decide (K.1 = 2) && decide (3 ≤ K.2.1 ∧ K.2.1 ≤ 6) && decide (K.2.2.1 = n) && (List.range n).all (fun j => decide (ytag (zty K j) = t) && decide ((zty K j).1 < 100002) && decide (2 ≤ (zty K j).1))
  | none => false
section YRH
variable {kds : List zKD} {D : va_G} {cl : List vw_C} {cy : Nat → ClassId} {L : List Nat} {Θ : Nat → Option Nat} {nL : Nat}
variable {p : Program} {l : Launch} {e : Env} {R : Room} {s : State} {m : MethodId} {args : Array Value} {below : List Frame} {meth : Method} {c : Code} {Q : State → Prop}
variable {cc : ByteArray} {pc : Nat} {tys : List (ClassId × FieldType)} {Ts : List Cond} {own : String} {P P1 P2 : yP}
theorem yr_get (X : hCx D cl cy L p s m args c cc nL tys Ts own) {idx ci j kk t : Nat} {lo hi : Int} {o : Option FieldType} (hF : zFok own Ts cl (idx, ci, j, o)) (hk : yfd kds kk j ci t lo hi = true) (hd : decode cc pc = .ok (.getfield idx, 3)) (k : yGo η kds D cl cy L Θ nL p l e R s m args below meth c Q (pc + 3) (P)) : yGo η kds D cl cy L Θ nL p l e R s m args below meth c Q (pc) (yGet kk j t lo hi P) := by
  intro loc st h H locs ls hp g
  unfold yGet at hp
  split at hp
  · rename_i a st'
    obtain ⟨h1, h2⟩ := hp
    obtain ⟨K, e1, e2, e3, e4, e5, e6, e7⟩ := y_fd hk
    obtain ⟨a1, a2, a3⟩ := y_ref (η := η) (g.2.2.1 a List.mem_cons_self) h1
    obtain ⟨-, b2, b3⟩ := zH_in g.2.2.2.1 a2 e1 e3
    rw [e6] at b2
    rw [e7] at b3
    have ok := y_slot g.2.2.2.1 a2 e1 e3 e4
    rw [e5] at ok
    have w := yr_un g ok (h2 b2 b3) k
    rw [← e5, y_svo] at w
    rw [List.map_cons, a3]
    exact hw_get X hF a2 e1 e2 e3 g.2.2.2.1 hd w
  · exact hp.elim
theorem yr_getP (X : hCx D cl cy L p s m args c cc nL tys Ts own) {idx ci j kk k2 : Nat} {lo hi : Int} {o : Option FieldType} (hF : zFok own Ts cl (idx, ci, j, o)) (hk : yfd kds kk j ci (k2 + 100002) lo hi = true) (hd : decode cc pc = .ok (.getfield idx, 3)) (k : yGo η kds D cl cy L Θ nL p l e R s m args below meth c Q (pc + 3) (P)) : yGo η kds D cl cy L Θ nL p l e R s m args below meth c Q (pc) (yGetP Θ kk j k2 P) := by
  intro loc st h H locs ls hp g
  unfold yGetP at hp
  split at hp
  · rename_i a st'
    obtain ⟨h1, h2⟩ := hp
    obtain ⟨K, e1, e2, e3, e4, e5, e6, e7⟩ := y_fd hk
    obtain ⟨a1, a2, a3⟩ := y_ref (η := η) (g.2.2.1 a List.mem_cons_self) h1
    have ok := y_slot g.2.2.2.1 a2 e1 e3 e4
    rw [e5] at ok
    obtain ⟨c1, c2, -⟩ := y_ref (η := η) ok rfl
    have w := yr_un g ok (h2 c1 c2) k
    rw [← e5, y_svo] at w
    rw [List.map_cons, a3]
    exact hw_get X hF a2 e1 e2 e3 g.2.2.2.1 hd w
  · exact hp.elim
theorem yr_put (X : hCx D cl cy L p s m args c cc nL tys Ts own) {idx ci j kk : Nat} {lo hi : Int} {ty : FieldType} (hF : zFok own Ts cl (idx, ci, j, some ty)) (hk : yfd kds kk j ci 0 lo hi = true) (hft : zfty ty (0, lo, hi) = true) (hd : decode cc pc = .ok (.putfield idx, 3)) (k : yGo η kds D cl cy L Θ nL p l e R s m args below meth c Q (pc + 3) (P)) : yGo η kds D cl cy L Θ nL p l e R s m args below meth c Q (pc) (yPut kk j lo hi P) := by
  intro loc st h H locs ls hp g
  unfold yPut at hp
  split at hp
  · rename_i v a st'
    obtain ⟨⟨h1, h2⟩, h3, h4⟩ := hp
    obtain ⟨K, e1, e2, e3, e4, e5, e6, e7⟩ := y_fd hk
    have gv := g.2.2.1 v List.mem_cons_self
    obtain ⟨a1, a2, a3⟩ := y_ref (η := η) (g.2.2.1 a (List.mem_cons_of_mem _ List.mem_cons_self)) h1
    have ez : zty K j = (0, lo, hi) := by
      generalize zty K j = tt at e5 e6 e7
      obtain ⟨t, x, y⟩ := tt
      simp only at e6 e7
      subst e6 e7
      unfold ytag at e5
      simp only at e5
      split at e5
      · omega
      · rw [e5]
    have ev : yvo η v = zdec η (zty K j).1 v.2 := by rw [ez]; unfold yvo; rw [h2]
    have vok : zok Θ (zty K j).1 v.2 := by
      rw [ez]
      obtain ⟨t, n⟩ := v
      simp only at h2
      subst h2
      unfold yok at gv
      rw [if_pos (by simp)] at gv
      exact gv
    rw [List.map_cons, List.map_cons, a3, ev]
    refine hw_put X hF a2 e1 e2 e3 (by rw [ez]; exact hft) ⟨vok, by rw [ez]; exact h3.1, by rw [ez]; exact h3.2⟩ g.2.2.2.1 g.2.2.2.2 hd (fun H1 locs1 hH1 hS1 => ?_)
    exact k loc st' _ H1 locs1 ls h4 ⟨g.1, g.2.1, fun q hq => g.2.2.1 q (List.mem_cons_of_mem _ (List.mem_cons_of_mem _ hq)), hH1, hS1⟩
  · exact hp.elim
/-- a field of ints, longs without bounds -/
theorem yr_put0 (X : hCx D cl cy L p s m args c cc nL tys Ts own) {idx ci j kk t : Nat} {lo hi : Int} {ty : FieldType} (hF : zFok own Ts cl (idx, ci, j, some ty)) (hk : yfd kds kk j ci t lo hi = true) (ht : (t = 0 ∧ lo = -2147483648 ∧ hi = 2147483647) ∨ (t = 1 ∧ lo = -9223372036854775808 ∧ hi = 9223372036854775807)) (hft : zfty ty (t, lo, hi) = true) (hd : decode cc pc = .ok (.putfield idx, 3)) (k : yGo η kds D cl cy L Θ nL p l e R s m args below meth c Q (pc + 3) (P)) : yGo η kds D cl cy L Θ nL p l e R s m args below meth c Q (pc) (yPut0 kk j t P) := by
  intro loc st h H locs ls hp g
  unfold yPut0 at hp
  split at hp
  · rename_i v a st'
    obtain ⟨⟨h1, h2⟩, h4⟩ := hp
    obtain ⟨K, e1, e2, e3, e4, e5, e6, e7⟩ := y_fd hk
    have gv := g.2.2.1 v List.mem_cons_self
    obtain ⟨a1, a2, a3⟩ := y_ref (η := η) (g.2.2.1 a (List.mem_cons_of_mem _ List.mem_cons_self)) h1
    have ez : zty K j = (t, lo, hi) := by
      generalize zty K j = tt at e5 e6 e7
      obtain ⟨t', x, y⟩ := tt
      simp only at e6 e7
      subst e6 e7
      unfold ytag at e5
      simp only at e5
      split at e5
      · omega
      · rw [e5]
    have ev : yvo η v = zdec η (zty K j).1 v.2 := by rw [ez]; unfold yvo; rw [h2]
    have vok : zok Θ t v.2 ∧ lo ≤ v.2 ∧ v.2 ≤ hi := by
      obtain ⟨t', n⟩ := v
      simp only at h2
      subst h2
      unfold yok at gv
      rcases ht with ⟨rfl, rfl, rfl⟩ | ⟨rfl, rfl, rfl⟩
      · rw [if_pos (by simp)] at gv
        exact ⟨gv, gv⟩
      · rw [if_pos (by simp)] at gv
        exact ⟨gv, gv⟩
    rw [List.map_cons, List.map_cons, a3, ev]
    refine hw_put X hF a2 e1 e2 e3 (by rw [ez]; exact hft) (by rw [ez]; exact vok) g.2.2.2.1 g.2.2.2.2 hd (fun H1 locs1 hH1 hS1 => ?_)
    exact k loc st' _ H1 locs1 ls h4 ⟨g.1, g.2.1, fun q hq => g.2.2.1 q (List.mem_cons_of_mem _ (List.mem_cons_of_mem _ hq)), hH1, hS1⟩
  · exact hp.elim
/-- an element is read -/
theorem yr_aldK (X : hCx D cl cy L p s m args c cc nL tys Ts own) {kk n : Nat} {K : zKD} {lo hi : Nat → Int} (hK : kds[kk]? = some K) (hn : K.2.2.1 = n) (hz : ∀ j, j < n → zty K j = (0, lo j, hi j)) (hKf : (K.1 = 1 ∧ K.2.1 = 0 ∧ decode cc pc = .ok (.iaload, 1)) ∨ (K.1 = 1 ∧ (K.2.1 = 1 ∨ K.2.1 = 2) ∧ decode cc pc = .ok (.baload, 1))) (k : yGo η kds D cl cy L Θ nL p l e R s m args below meth c Q (pc + 1) (P)) : yGo η kds D cl cy L Θ nL p l e R s m args below meth c Q (pc) (yAld kk n lo hi P) := by
  intro loc st h H locs ls hp g
  unfold yAld at hp
  split at hp
  · rename_i i a st'
    obtain ⟨⟨h1, h2⟩, h3, h4⟩ := hp
    obtain ⟨a1, a2, a3⟩ := y_ref (η := η) (g.2.2.1 a (List.mem_cons_of_mem _ List.mem_cons_self)) h1
    obtain ⟨x, ex, hx⟩ := y_int (η := η) (g.2.2.1 i List.mem_cons_self) h2
    have hj : i.2.toNat < K.2.2.1 := by omega
    obtain ⟨b1, b2, b3⟩ := zH_in g.2.2.2.1 a2 hK hj
    rw [hz _ (by omega)] at b1 b2 b3
    have ok : yok Θ (0, h a.2.toNat i.2.toNat) := by
      unfold yok
      rw [if_pos (by simp)]
      exact b1
    have w := yr_bin g ok (h4 b2 b3) k
    rw [List.map_cons, List.map_cons, a3, ex]
    rw [show yvo η (0, h a.2.toNat i.2.toNat) = .int (Int32.ofInt (h a.2.toNat i.2.toNat)) from rfl, ← hx] at w
    rcases hKf with ⟨f1, f2, hd⟩ | ⟨f1, f2, hd⟩
    · exact hw_iald X a2 hK ⟨f1, f2⟩ ⟨by omega, by omega⟩ g.2.2.2.1 hd w
    · exact hw_bald X a2 hK ⟨f1, f2⟩ ⟨by omega, by omega⟩ g.2.2.2.1 hd w
  · exact hp.elim
theorem yr_iald (X : hCx D cl cy L p s m args c cc nL tys Ts own) {kk n : Nat} {lo hi : Int} (hk : yad kds kk 0 n lo hi = true) (hd : decode cc pc = .ok (.iaload, 1)) (k : yGo η kds D cl cy L Θ nL p l e R s m args below meth c Q (pc + 1) (P)) : yGo η kds D cl cy L Θ nL p l e R s m args below meth c Q (pc) (yAld kk n (fun _ => lo) (fun _ => hi) P) := by
  obtain ⟨K, e1, e2, e3, e4, -⟩ := y_ad hk
  exact yr_aldK X e1 e3 (fun j _ => e4 j) (Or.inl ⟨e2.1, e2.2, hd⟩) k
theorem yr_bald (X : hCx D cl cy L p s m args c cc nL tys Ts own) {kk ty n : Nat} {lo hi : Int} (hty : ty = 1 ∨ ty = 2) (hk : yad kds kk ty n lo hi = true) (hd : decode cc pc = .ok (.baload, 1)) (k : yGo η kds D cl cy L Θ nL p l e R s m args below meth c Q (pc + 1) (P)) : yGo η kds D cl cy L Θ nL p l e R s m args below meth c Q (pc) (yAld kk n (fun _ => lo) (fun _ => hi) P) := by
  obtain ⟨K, e1, e2, e3, e4, -⟩ := y_ad hk
  exact yr_aldK X e1 e3 (fun j _ => e4 j) (Or.inr ⟨e2.1, by rw [e2.2]; exact hty, hd⟩) k
theorem yr_ialdK (X : hCx D cl cy L p s m args c cc nL tys Ts own) {kk n : Nat} {K : zKD} (hk : yak kds kk n K) (hd : decode cc pc = .ok (.iaload, 1)) (k : yGo η kds D cl cy L Θ nL p l e R s m args below meth c Q (pc + 1) (P)) : yGo η kds D cl cy L Θ nL p l e R s m args below meth c Q (pc) (yAld kk n (fun j => (zty K j).2.1) (fun j => (zty K j).2.2) P) := by
  obtain ⟨e1, e2, e3, e4⟩ := hk
  exact yr_aldK X e1 e3 (fun j hj => by
    have := e4 j hj
    generalize zty K j = tt at this
    obtain ⟨t, x, y⟩ := tt
    simp only at this ⊢
    rw [this]) (Or.inl ⟨e2.1, e2.2, hd⟩) k
theorem yr_aldq (X : hCx D cl cy L p s m args c cc nL tys Ts own) {kk n k2 : Nat} (hk : yqd kds kk n (k2 + 100002) = true) (hd : decode cc pc = .ok (.aaload, 1)) (k : yGo η kds D cl cy L Θ nL p l e R s m args below meth c Q (pc + 1) (P)) : yGo η kds D cl cy L Θ nL p l e R s m args below meth c Q (pc) (yAldq Θ kk n k2 P) := by
  intro loc st h H locs ls hp g
  unfold yAldq at hp
  split at hp
  · rename_i i a st'
    obtain ⟨⟨h1, h2⟩, h3, h4⟩ := hp
    unfold yqd at hk
    split at hk
    · rename_i K hK
      simp only [Bool.and_eq_true, decide_eq_true_eq] at hk
      obtain ⟨⟨⟨f1, f2⟩, f3⟩, f4⟩ := hk
      have hjn : i.2.toNat < n := by omega
      have f5 := List.all_eq_true.mp f4 i.2.toNat (List.mem_range.mpr hjn)
      simp only [Bool.and_eq_true, decide_eq_true_eq] at f5
      obtain ⟨a1, a2, a3⟩ := y_ref (η := η) (g.2.2.1 a (List.mem_cons_of_mem _ List.mem_cons_self)) h1
      obtain ⟨x, ex, hx⟩ := y_int (η := η) (g.2.2.1 i List.mem_cons_self) h2
      have ok := y_slot g.2.2.2.1 a2 hK (by omega : i.2.toNat < K.2.2.1) f5.1.2
      rw [f5.1.1] at ok
      obtain ⟨c1, c2, -⟩ := y_ref (η := η) ok rfl
      have w := k loc ((k2 + 100002, h a.2.toNat i.2.toNat) :: st') h H locs ls (h4 c1 c2) (yg_st g (fun q hq => by
        rcases List.mem_cons.mp hq with rfl | hq
        · exact ok
        · exact g.2.2.1 q (List.mem_cons_of_mem _ (List.mem_cons_of_mem _ hq))))
      rw [List.map_cons, ← f5.1.1, y_svo, z_dq f5.2] at w
      obtain ⟨hexec, hb, hml, hts, hown, hKa, hT, hnd⟩ := X
      obtain ⟨q0, hq⟩ := zH_get g.2.2.2.1 a2 hK (by omega)
      rw [zE_q f1] at hq
      obtain ⟨v1, v2⟩ := z_vin (i := x) (n := K.2.2.1) (by omega) (by omega)
      obtain ⟨C, hC⟩ := hT.2.2.2 K.2.1 f2.1 f2.2
      rw [List.map_cons, List.map_cons, a3, ex]
      refine va_aldq hexec hb hKa g.2.2.2.1.1 q0 K.2.1 hq hC v1 hd ?_
      rw [v2, hx]
      exact w
    · cases hk
  · exact hp.elim
/-- an element is written -/
theorem yr_astK (X : hCx D cl cy L p s m args c cc nL tys Ts own) {kk n : Nat} {K : zKD} {lo hi : Nat → Int} (hK : kds[kk]? = some K) (hn : K.2.2.1 = n) (hz : ∀ j, j < n → zty K j = (0, lo j, hi j)) (hKf : (K.1 = 1 ∧ K.2.1 = 0 ∧ decode cc pc = .ok (.iastore, 1)) ∨ (K.1 = 1 ∧ K.2.1 = 1 ∧ (∀ j, -128 ≤ lo j ∧ hi j ≤ 127) ∧ decode cc pc = .ok (.bastore, 1)) ∨ (K.1 = 1 ∧ K.2.1 = 2 ∧ (∀ j, 0 ≤ lo j ∧ hi j ≤ 1) ∧ decode cc pc = .ok (.bastore, 1))) (k : yGo η kds D cl cy L Θ nL p l e R s m args below meth c Q (pc + 1) (P)) : yGo η kds D cl cy L Θ nL p l e R s m args below meth c Q (pc) (yAst kk n lo hi P) := by
  intro loc st h H locs ls hp g
  unfold yAst at hp
  split at hp
  · rename_i v i a st'
    obtain ⟨⟨h1, h2, h5⟩, h3, h6, h4⟩ := hp
    have gv := g.2.2.1 v List.mem_cons_self
    obtain ⟨a1, a2, a3⟩ := y_ref (η := η) (g.2.2.1 a (List.mem_cons_of_mem _ (List.mem_cons_of_mem _ List.mem_cons_self))) h1
    obtain ⟨x, ex, hx⟩ := y_int (η := η) (g.2.2.1 i (List.mem_cons_of_mem _ List.mem_cons_self)) h2
    obtain ⟨y, ey, hy⟩ := y_int (η := η) gv h5
    have hD : va_D (fun q => q ∈ L) ([] ++ va_pl L (zF η kds cy Θ h)) := z_D X.2.2.2.2.2.2.2 (fun a ha => ha)
    obtain ⟨q0, hq⟩ := zH_get g.2.2.2.1 a2 hK (by omega)
    have hq1 := hq
    have hK1 : K.1 = 1 := by rcases hKf with q | q | q <;> exact q.1
    rw [zE_i hK1] at hq1
    obtain ⟨v1, v2⟩ := z_vin (i := x) (n := K.2.2.1) (by omega) (by omega)
    have fin : ∀ (H1 : Heap) (locs1 : List Loc), va_P D cl (([] ++ va_pl L (zF η kds cy Θ h)).set q0 (η.1 a.2.toNat, .inl (cy K.2.1, K.2.2.1, .inl (upd (fun j => Int32.ofInt (h a.2.toNat j)) i.2.toNat y)))) H1 → va_S (fun q => q ∈ L) s.heap H1 locs1 → W p l e R s m args below meth c H1 locs1 0 0 Q (F0 m (pc + 1) ls (st'.map (yvo η))) := by
      intro H1 locs1 hP1 hS1
      refine k loc st' _ H1 locs1 ls h4 ⟨g.1, g.2.1, fun q hq => g.2.2.1 q (List.mem_cons_of_mem _ (List.mem_cons_of_mem _ (List.mem_cons_of_mem _ hq))), ?_, hS1⟩
      refine zH_put g.2.2.2.1 hD a2 hK (by omega) (by omega) ?_ hq ?_
      · rw [hz _ (by omega)]
        refine ⟨?_, h6.1, h6.2⟩
        rw [← hy]
        exact ⟨z_lo y, z_hi y⟩
      · rw [zE_i hK1]
        have ef : (fun j => Int32.ofInt (zup h a.2.toNat i.2.toNat v.2 a.2.toNat j)) = upd (fun j => Int32.ofInt (h a.2.toNat j)) i.2.toNat y := by
          funext j
          unfold upd
          split
          · rename_i e
            subst e
            rw [zup_at, ← hy, z_ofi]
          · rename_i e
            rw [zup_ne (fun q => e q.2)]
        rw [ef]
        exact hP1
    rw [List.map_cons, List.map_cons, List.map_cons, a3, ex, ey]
    obtain ⟨hexec, hb, hml, hts, hown, hKa, hT, hnd⟩ := X
    rcases hKf with ⟨-, e0, hd⟩ | ⟨-, e0, bb, hd⟩ | ⟨-, e0, bb, hd⟩
    · rw [e0] at hq1 fin
      refine va_iast hexec hb hKa g.2.2.2.1.1 hD g.2.2.2.2 q0 0 hq1 hT.1 v1 hd (fun H1 locs1 hP1 _ hS1 => ?_)
      rw [v2, hx] at hP1
      exact fin H1 locs1 hP1 hS1
    · rw [e0] at hq1 fin
      have b2 := bb i.2.toNat
      refine va_bast hexec hb hKa g.2.2.2.1.1 hD g.2.2.2.2 q0 1 hq1 hT.2.1 v1 hd (fun H1 locs1 hP1 _ hS1 => ?_)
      rw [v2, hx, z_narb (by omega) (by omega)] at hP1
      exact fin H1 locs1 hP1 hS1
    · rw [e0] at hq1 fin
      have b2 := bb i.2.toNat
      refine va_zast hexec hb hKa g.2.2.2.1.1 hD g.2.2.2.2 q0 2 hq1 hT.2.2.1 v1 hd (fun H1 locs1 hP1 _ hS1 => ?_)
      rw [v2, hx, z_narz (by omega) (by omega)] at hP1
      exact fin H1 locs1 hP1 hS1
  · exact hp.elim
theorem yr_iast (X : hCx D cl cy L p s m args c cc nL tys Ts own) {kk n : Nat} {lo hi : Int} (hk : yad kds kk 0 n lo hi = true) (hd : decode cc pc = .ok (.iastore, 1)) (k : yGo η kds D cl cy L Θ nL p l e R s m args below meth c Q (pc + 1) (P)) : yGo η kds D cl cy L Θ nL p l e R s m args below meth c Q (pc) (yAst kk n (fun _ => lo) (fun _ => hi) P) := by
  obtain ⟨K, e1, e2, e3, e4, -⟩ := y_ad hk
  exact yr_astK X e1 e3 (fun j _ => e4 j) (Or.inl ⟨e2.1, e2.2, hd⟩) k
theorem yr_bast (X : hCx D cl cy L p s m args c cc nL tys Ts own) {kk n : Nat} {lo hi : Int} (hk : yad kds kk 1 n lo hi = true) (hd : decode cc pc = .ok (.bastore, 1)) (k : yGo η kds D cl cy L Θ nL p l e R s m args below meth c Q (pc + 1) (P)) : yGo η kds D cl cy L Θ nL p l e R s m args below meth c Q (pc) (yAst kk n (fun _ => lo) (fun _ => hi) P) := by
  obtain ⟨K, e1, e2, e3, e4, e5, -⟩ := y_ad hk
  exact yr_astK X e1 e3 (fun j _ => e4 j) (Or.inr (Or.inl ⟨e2.1, e2.2, fun _ => by rcases e5 with q | q | q <;> omega, hd⟩)) k
theorem yr_zast (X : hCx D cl cy L p s m args c cc nL tys Ts own) {kk n : Nat} {lo hi : Int} (hk : yad kds kk 2 n lo hi = true) (hd : decode cc pc = .ok (.bastore, 1)) (k : yGo η kds D cl cy L Θ nL p l e R s m args below meth c Q (pc + 1) (P)) : yGo η kds D cl cy L Θ nL p l e R s m args below meth c Q (pc) (yAst kk n (fun _ => lo) (fun _ => hi) P) := by
  obtain ⟨K, e1, e2, e3, e4, e5, -⟩ := y_ad hk
  exact yr_astK X e1 e3 (fun j _ => e4 j) (Or.inr (Or.inr ⟨e2.1, e2.2, fun _ => by rcases e5 with q | q | q <;> omega, hd⟩)) k
theorem yr_iastK (X : hCx D cl cy L p s m args c cc nL tys Ts own) {kk n : Nat} {K : zKD} (hk : yak kds kk n K) (hd : decode cc pc = .ok (.iastore, 1)) (k : yGo η kds D cl cy L Θ nL p l e R s m args below meth c Q (pc + 1) (P)) : yGo η kds D cl cy L Θ nL p l e R s m args below meth c Q (pc) (yAst kk n (fun j => (zty K j).2.1) (fun j => (zty K j).2.2) P) := by
  obtain ⟨e1, e2, e3, e4⟩ := hk
  exact yr_astK X e1 e3 (fun j hj => by
    have := e4 j hj
    generalize zty K j = tt at this
    obtain ⟨t, x, y⟩ := tt
    simp only at this ⊢
    rw [this]) (Or.inl ⟨e2.1, e2.2, hd⟩) k
theorem yr_len (X : hCx D cl cy L p s m args c cc nL tys Ts own) {kk ty n : Nat} {lo hi : Int} (hk : yad kds kk ty n lo hi = true) (hn : n ≤ 2147483647) (hd : decode cc pc = .ok (.arraylength, 1)) (k : yGo η kds D cl cy L Θ nL p l e R s m args below meth c Q (pc + 1) (P)) : yGo η kds D cl cy L Θ nL p l e R s m args below meth c Q (pc) (yLen kk (n : Int) P) := by
  intro loc st h H locs ls hp g
  unfold yLen at hp
  split at hp
  · rename_i a st'
    obtain ⟨K, e1, e2, e3, e4, e5, -⟩ := y_ad hk
    obtain ⟨a1, a2, a3⟩ := y_ref (η := η) (g.2.2.1 a List.mem_cons_self) hp.1
    have w := yr_un g (t := 0) (y_i (Θ := Θ) (by omega) (by omega)) hp.2 k
    obtain ⟨hexec, hb, hml, hts, hown, hKa, hT, hnd⟩ := X
    obtain ⟨q0, hq⟩ := zH_get g.2.2.2.1 a2 e1 (by omega)
    rw [zE_i e2.1, e3] at hq
    have ht : ∃ t9, tys[K.2.1]? = some (cy K.2.1, t9) := by
      have : K.2.1 = 0 ∨ K.2.1 = 1 ∨ K.2.1 = 2 := by rw [e2.2]; rcases e5 with q | q | q <;> omega
      rcases this with e0 | e0 | e0 <;> rw [e0]
      · exact ⟨_, hT.1⟩
      · exact ⟨_, hT.2.1⟩
      · exact ⟨_, hT.2.2.1⟩
    obtain ⟨t9, ht⟩ := ht
    rw [List.map_cons, a3]
    exact va_alen (v := Int32.ofInt (n : Int)) hexec hb hKa g.2.2.2.1.1 q0 K.2.1 hq ht Int32.ofInt_eq_ofNat.symm hd w
  · exact hp.elim
/-- jumps -/
theorem yr_goto (X : hCx D cl cy L p s m args c cc nL tys Ts own) {off : Int} {tgt : Nat} (hd : decode cc pc = .ok (.goto off, 3)) (ht : (pc : Int) + off = (tgt : Int)) (k : yGo η kds D cl cy L Θ nL p l e R s m args below meth c Q (tgt) (P)) : yGo η kds D cl cy L Θ nL p l e R s m args below meth c Q (pc) (P) :=
  fun loc st h H locs ls hp g => lv_goto X.1 X.2.1 hd ht (k loc st h H locs ls hp g)
theorem yr_if2 (X : hCx D cl cy L p s m args c cc nL tys Ts own) {cd : Jvm.ClassFile.Cond} {off : Int} {tgt : Nat} (hd : decode cc pc = .ok (.if_icmp cd off, 3)) (ht : (pc : Int) + off = (tgt : Int)) {Pc : yP} (hc : ∀ (loc : yL) (st : List yV) (h : yH), Pc loc st h → ∃ (b a : yV) (st' : List yV), st = b :: a :: st' ∧ (a.1 = 0 ∧ b.1 = 0) ∧ (zcmp (zcn cd) a.2 b.2 → P1 loc st' h) ∧ (¬ zcmp (zcn cd) a.2 b.2 → P2 loc st' h)) (k1 : yGo η kds D cl cy L Θ nL p l e R s m args below meth c Q (tgt) (P1)) (k2 : yGo η kds D cl cy L Θ nL p l e R s m args below meth c Q (pc + 3) (P2)) : yGo η kds D cl cy L Θ nL p l e R s m args below meth c Q (pc) (Pc) := by
  intro loc st h H locs ls hp g
  obtain ⟨b, a, st', rfl, ⟨h1, h2⟩, h3, h4⟩ := hc loc st h hp
  obtain ⟨x, ex, hx⟩ := y_int (η := η) (g.2.2.1 a (List.mem_cons_of_mem _ List.mem_cons_self)) h1
  obtain ⟨y, ey, hy⟩ := y_int (η := η) (g.2.2.1 b List.mem_cons_self) h2
  have gs : ∀ q ∈ st', yok Θ q := fun q hq => g.2.2.1 q (List.mem_cons_of_mem _ (List.mem_cons_of_mem _ hq))
  rw [List.map_cons, List.map_cons, ex, ey]
  exact z_icmp X.1 X.2.1 hd ht (fun q => k1 loc st' h H locs ls (h3 (by rw [← hx, ← hy]; exact q)) (yg_st g gs)) (fun q => k2 loc st' h H locs ls (h4 (by rw [← hx, ← hy]; exact q)) (yg_st g gs))
theorem yr_if1 (X : hCx D cl cy L p s m args c cc nL tys Ts own) {cd : Jvm.ClassFile.Cond} {off : Int} {tgt : Nat} (hd : decode cc pc = .ok (.ifCond cd off, 3)) (ht : (pc : Int) + off = (tgt : Int)) {Pc : yP} (hc : ∀ (loc : yL) (st : List yV) (h : yH), Pc loc st h → ∃ (a : yV) (st' : List yV), st = a :: st' ∧ a.1 = 0 ∧ (zcmp (zcn cd) a.2 0 → P1 loc st' h) ∧ (¬ zcmp (zcn cd) a.2 0 → P2 loc st' h)) (k1 : yGo η kds D cl cy L Θ nL p l e R s m args below meth c Q (tgt) (P1)) (k2 : yGo η kds D cl cy L Θ nL p l e R s m args below meth c Q (pc + 3) (P2)) : yGo η kds D cl cy L Θ nL p l e R s m args below meth c Q (pc) (Pc) := by
  intro loc st h H locs ls hp g
  obtain ⟨a, st', rfl, h1, h3, h4⟩ := hc loc st h hp
  obtain ⟨x, ex, hx⟩ := y_int (η := η) (g.2.2.1 a List.mem_cons_self) h1
  have gs : ∀ q ∈ st', yok Θ q := fun q hq => g.2.2.1 q (List.mem_cons_of_mem _ hq)
  rw [List.map_cons, ex]
  exact z_ic0 X.1 X.2.1 hd ht (fun q => k1 loc st' h H locs ls (h3 (by rw [← hx]; exact q)) (yg_st g gs)) (fun q => k2 loc st' h H locs ls (h4 (by rw [← hx]; exact q)) (yg_st g gs))
theorem yr_lt (X : hCx D cl cy L p s m args c cc nL tys Ts own) {off : Int} {tgt : Nat} (hd : decode cc pc = .ok (.if_icmp .lt off, 3)) (ht : (pc : Int) + off = (tgt : Int)) (k1 : yGo η kds D cl cy L Θ nL p l e R s m args below meth c Q (tgt) (P1)) (k2 : yGo η kds D cl cy L Θ nL p l e R s m args below meth c Q (pc + 3) (P2)) : yGo η kds D cl cy L Θ nL p l e R s m args below meth c Q (pc) (yLt P1 P2) := by
  refine yr_if2 X hd ht (fun loc st h hp => ?_) k1 k2
  unfold yLt at hp
  split at hp
  · rename_i b a st'
    refine ⟨b, a, st', rfl, hp.1, fun q => ?_, fun q => ?_⟩
    · have h3 := hp.2
      unfold zcmp zcn at q
      simp only at q
      split at h3
      · first | exact h3 | (exfalso; omega)
      · first | exact h3 | (exfalso; omega)
    · have h3 := hp.2
      unfold zcmp zcn at q
      simp only at q
      split at h3
      · first | exact h3 | (exfalso; omega)
      · first | exact h3 | (exfalso; omega)
  · exact hp.elim
theorem yr_ge (X : hCx D cl cy L p s m args c cc nL tys Ts own) {off : Int} {tgt : Nat} (hd : decode cc pc = .ok (.if_icmp .ge off, 3)) (ht : (pc : Int) + off = (tgt : Int)) (k1 : yGo η kds D cl cy L Θ nL p l e R s m args below meth c Q (tgt) (P1)) (k2 : yGo η kds D cl cy L Θ nL p l e R s m args below meth c Q (pc + 3) (P2)) : yGo η kds D cl cy L Θ nL p l e R s m args below meth c Q (pc) (yLt P2 P1) := by
  refine yr_if2 X hd ht (fun loc st h hp => ?_) k1 k2
  unfold yLt at hp
  split at hp
  · rename_i b a st'
    refine ⟨b, a, st', rfl, hp.1, fun q => ?_, fun q => ?_⟩
    · have h3 := hp.2
      unfold zcmp zcn at q
      simp only at q
      split at h3
      · first | exact h3 | (exfalso; omega)
      · first | exact h3 | (exfalso; omega)
    · have h3 := hp.2
      unfold zcmp zcn at q
      simp only at q
      split at h3
      · first | exact h3 | (exfalso; omega)
      · first | exact h3 | (exfalso; omega)
  · exact hp.elim
theorem yr_gt (X : hCx D cl cy L p s m args c cc nL tys Ts own) {off : Int} {tgt : Nat} (hd : decode cc pc = .ok (.if_icmp .gt off, 3)) (ht : (pc : Int) + off = (tgt : Int)) (k1 : yGo η kds D cl cy L Θ nL p l e R s m args below meth c Q (tgt) (P1)) (k2 : yGo η kds D cl cy L Θ nL p l e R s m args below meth c Q (pc + 3) (P2)) : yGo η kds D cl cy L Θ nL p l e R s m args below meth c Q (pc) (yGt P1 P2) := by
  refine yr_if2 X hd ht (fun loc st h hp => ?_) k1 k2
  unfold yGt at hp
  split at hp
  · rename_i b a st'
    refine ⟨b, a, st', rfl, hp.1, fun q => ?_, fun q => ?_⟩
    · have h3 := hp.2
      unfold zcmp zcn at q
      simp only at q
      split at h3
      · first | exact h3 | (exfalso; omega)
      · first | exact h3 | (exfalso; omega)
    · have h3 := hp.2
      unfold zcmp zcn at q
      simp only at q
      split at h3
      · first | exact h3 | (exfalso; omega)
      · first | exact h3 | (exfalso; omega)
  · exact hp.elim
theorem yr_le (X : hCx D cl cy L p s m args c cc nL tys Ts own) {off : Int} {tgt : Nat} (hd : decode cc pc = .ok (.if_icmp .le off, 3)) (ht : (pc : Int) + off = (tgt : Int)) (k1 : yGo η kds D cl cy L Θ nL p l e R s m args below meth c Q (tgt) (P1)) (k2 : yGo η kds D cl cy L Θ nL p l e R s m args below meth c Q (pc + 3) (P2)) : yGo η kds D cl cy L Θ nL p l e R s m args below meth c Q (pc) (yGt P2 P1) := by
  refine yr_if2 X hd ht (fun loc st h hp => ?_) k1 k2
  unfold yGt at hp
  split at hp
  · rename_i b a st'
    refine ⟨b, a, st', rfl, hp.1, fun q => ?_, fun q => ?_⟩
    · have h3 := hp.2
      unfold zcmp zcn at q
      simp only at q
      split at h3
      · first | exact h3 | (exfalso; omega)
      · first | exact h3 | (exfalso; omega)
    · have h3 := hp.2
      unfold zcmp zcn at q
      simp only at q
      split at h3
      · first | exact h3 | (exfalso; omega)
      · first | exact h3 | (exfalso; omega)
  · exact hp.elim
theorem yr_eq (X : hCx D cl cy L p s m args c cc nL tys Ts own) {off : Int} {tgt : Nat} (hd : decode cc pc = .ok (.if_icmp .eq off, 3)) (ht : (pc : Int) + off = (tgt : Int)) (k1 : yGo η kds D cl cy L Θ nL p l e R s m args below meth c Q (tgt) (P1)) (k2 : yGo η kds D cl cy L Θ nL p l e R s m args below meth c Q (pc + 3) (P2)) : yGo η kds D cl cy L Θ nL p l e R s m args below meth c Q (pc) (yEq P1 P2) := by
  refine yr_if2 X hd ht (fun loc st h hp => ?_) k1 k2
  unfold yEq at hp
  split at hp
  · rename_i b a st'
    refine ⟨b, a, st', rfl, hp.1, fun q => ?_, fun q => ?_⟩
    · have h3 := hp.2
      unfold zcmp zcn at q
      simp only at q
      split at h3
      · first | exact h3 | (exfalso; omega)
      · first | exact h3 | (exfalso; omega)
    · have h3 := hp.2
      unfold zcmp zcn at q
      simp only at q
      split at h3
      · first | exact h3 | (exfalso; omega)
      · first | exact h3 | (exfalso; omega)
  · exact hp.elim
theorem yr_ne (X : hCx D cl cy L p s m args c cc nL tys Ts own) {off : Int} {tgt : Nat} (hd : decode cc pc = .ok (.if_icmp .ne off, 3)) (ht : (pc : Int) + off = (tgt : Int)) (k1 : yGo η kds D cl cy L Θ nL p l e R s m args below meth c Q (tgt) (P1)) (k2 : yGo η kds D cl cy L Θ nL p l e R s m args below meth c Q (pc + 3) (P2)) : yGo η kds D cl cy L Θ nL p l e R s m args below meth c Q (pc) (yEq P2 P1) := by
  refine yr_if2 X hd ht (fun loc st h hp => ?_) k1 k2
  unfold yEq at hp
  split at hp
  · rename_i b a st'
    refine ⟨b, a, st', rfl, hp.1, fun q => ?_, fun q => ?_⟩
    · have h3 := hp.2
      unfold zcmp zcn at q
      simp only at q
      split at h3
      · first | exact h3 | (exfalso; omega)
      · first | exact h3 | (exfalso; omega)
    · have h3 := hp.2
      unfold zcmp zcn at q
      simp only at q
      split at h3
      · first | exact h3 | (exfalso; omega)
      · first | exact h3 | (exfalso; omega)
  · exact hp.elim
theorem yr_lt0 (X : hCx D cl cy L p s m args c cc nL tys Ts own) {off : Int} {tgt : Nat} (hd : decode cc pc = .ok (.ifCond .lt off, 3)) (ht : (pc : Int) + off = (tgt : Int)) (k1 : yGo η kds D cl cy L Θ nL p l e R s m args below meth c Q (tgt) (P1)) (k2 : yGo η kds D cl cy L Θ nL p l e R s m args below meth c Q (pc + 3) (P2)) : yGo η kds D cl cy L Θ nL p l e R s m args below meth c Q (pc) (yLt0 P1 P2) := by
  refine yr_if1 X hd ht (fun loc st h hp => ?_) k1 k2
  unfold yLt0 at hp
  split at hp
  · rename_i a st'
    refine ⟨a, st', rfl, hp.1, fun q => ?_, fun q => ?_⟩
    · have h3 := hp.2
      unfold zcmp zcn at q
      simp only at q
      split at h3
      · first | exact h3 | (exfalso; omega)
      · first | exact h3 | (exfalso; omega)
    · have h3 := hp.2
      unfold zcmp zcn at q
      simp only at q
      split at h3
      · first | exact h3 | (exfalso; omega)
      · first | exact h3 | (exfalso; omega)
  · exact hp.elim
theorem yr_ge0 (X : hCx D cl cy L p s m args c cc nL tys Ts own) {off : Int} {tgt : Nat} (hd : decode cc pc = .ok (.ifCond .ge off, 3)) (ht : (pc : Int) + off = (tgt : Int)) (k1 : yGo η kds D cl cy L Θ nL p l e R s m args below meth c Q (tgt) (P1)) (k2 : yGo η kds D cl cy L Θ nL p l e R s m args below meth c Q (pc + 3) (P2)) : yGo η kds D cl cy L Θ nL p l e R s m args below meth c Q (pc) (yLt0 P2 P1) := by
  refine yr_if1 X hd ht (fun loc st h hp => ?_) k1 k2
  unfold yLt0 at hp
  split at hp
  · rename_i a st'
    refine ⟨a, st', rfl, hp.1, fun q => ?_, fun q => ?_⟩
    · have h3 := hp.2
      unfold zcmp zcn at q
      simp only at q
      split at h3
      · first | exact h3 | (exfalso; omega)
      · first | exact h3 | (exfalso; omega)
    · have h3 := hp.2
      unfold zcmp zcn at q
      simp only at q
      split at h3
      · first | exact h3 | (exfalso; omega)
      · first | exact h3 | (exfalso; omega)
  · exact hp.elim
theorem yr_le0 (X : hCx D cl cy L p s m args c cc nL tys Ts own) {off : Int} {tgt : Nat} (hd : decode cc pc = .ok (.ifCond .le off, 3)) (ht : (pc : Int) + off = (tgt : Int)) (k1 : yGo η kds D cl cy L Θ nL p l e R s m args below meth c Q (tgt) (P1)) (k2 : yGo η kds D cl cy L Θ nL p l e R s m args below meth c Q (pc + 3) (P2)) : yGo η kds D cl cy L Θ nL p l e R s m args below meth c Q (pc) (yGt0 P2 P1) := by
  refine yr_if1 X hd ht (fun loc st h hp => ?_) k1 k2
  unfold yGt0 at hp
  split at hp
  · rename_i a st'
    refine ⟨a, st', rfl, hp.1, fun q => ?_, fun q => ?_⟩
    · have h3 := hp.2
      unfold zcmp zcn at q
      simp only at q
      split at h3
      · first | exact h3 | (exfalso; omega)
      · first | exact h3 | (exfalso; omega)
    · have h3 := hp.2
      unfold zcmp zcn at q
      simp only at q
      split at h3
      · first | exact h3 | (exfalso; omega)
      · first | exact h3 | (exfalso; omega)
  · exact hp.elim
theorem yr_eq0 (X : hCx D cl cy L p s m args c cc nL tys Ts own) {off : Int} {tgt : Nat} (hd : decode cc pc = .ok (.ifCond .eq off, 3)) (ht : (pc : Int) + off = (tgt : Int)) (k1 : yGo η kds D cl cy L Θ nL p l e R s m args below meth c Q (tgt) (P1)) (k2 : yGo η kds D cl cy L Θ nL p l e R s m args below meth c Q (pc + 3) (P2)) : yGo η kds D cl cy L Θ nL p l e R s m args below meth c Q (pc) (yEq0 P1 P2) := by
  refine yr_if1 X hd ht (fun loc st h hp => ?_) k1 k2
  unfold yEq0 at hp
  split at hp
  · rename_i a st'
    refine ⟨a, st', rfl, hp.1, fun q => ?_, fun q => ?_⟩
    · have h3 := hp.2
      unfold zcmp zcn at q
      simp only at q
      split at h3
      · first | exact h3 | (exfalso; omega)
      · first | exact h3 | (exfalso; omega)
    · have h3 := hp.2
      unfold zcmp zcn at q
      simp only at q
      split at h3
      · first | exact h3 | (exfalso; omega)
      · first | exact h3 | (exfalso; omega)
  · exact hp.elim
theorem yr_ne0 (X : hCx D cl cy L p s m args c cc nL tys Ts own) {off : Int} {tgt : Nat} (hd : decode cc pc = .ok (.ifCond .ne off, 3)) (ht : (pc : Int) + off = (tgt : Int)) (k1 : yGo η kds D cl cy L Θ nL p l e R s m args below meth c Q (tgt) (P1)) (k2 : yGo η kds D cl cy L Θ nL p l e R s m args below meth c Q (pc + 3) (P2)) : yGo η kds D cl cy L Θ nL p l e R s m args below meth c Q (pc) (yEq0 P2 P1) := by
  refine yr_if1 X hd ht (fun loc st h hp => ?_) k1 k2
  unfold yEq0 at hp
  split at hp
  · rename_i a st'
    refine ⟨a, st', rfl, hp.1, fun q => ?_, fun q => ?_⟩
    · have h3 := hp.2
      unfold zcmp zcn at q
      simp only at q
      split at h3
      · first | exact h3 | (exfalso; omega)
      · first | exact h3 | (exfalso; omega)
    · have h3 := hp.2
      unfold zcmp zcn at q
      simp only at q
      split at h3
      · first | exact h3 | (exfalso; omega)
      · first | exact h3 | (exfalso; omega)
  · exact hp.elim
theorem yr_leq (X : hCx D cl cy L p s m args c cc nL tys Ts own) {off : Int} {tgt : Nat} (hd : decode cc pc = .ok (.lcmp, 1)) (hd2 : decode cc (pc + 1) = .ok (.ifCond .eq off, 3)) (ht : ((pc + 1 : Nat) : Int) + off = (tgt : Int)) (k1 : yGo η kds D cl cy L Θ nL p l e R s m args below meth c Q (tgt) (P1)) (k2 : yGo η kds D cl cy L Θ nL p l e R s m args below meth c Q (pc + 1 + 3) (P2)) : yGo η kds D cl cy L Θ nL p l e R s m args below meth c Q (pc) (yLEq P1 P2) := by
  intro loc st h H locs ls hp g
  unfold yLEq at hp
  split at hp
  · rename_i b a st'
    obtain ⟨⟨h1, h2⟩, h3⟩ := hp
    obtain ⟨x, ex, hx⟩ := y_long (η := η) (g.2.2.1 a (List.mem_cons_of_mem _ List.mem_cons_self)) h1
    obtain ⟨y, ey, hy⟩ := y_long (η := η) (g.2.2.1 b List.mem_cons_self) h2
    have gs : ∀ q ∈ st', yok Θ q := fun q hq => g.2.2.1 q (List.mem_cons_of_mem _ (List.mem_cons_of_mem _ hq))
    rw [List.map_cons, List.map_cons, ex, ey]
    refine W.lcmp X.1 X.2.1 hd ?_
    refine z_ic0 X.1 X.2.1 hd2 ht (fun q => ?_) (fun q => ?_)
    · rw [z_lc, hx, hy] at q
      rw [if_pos (show a.2 = b.2 from q)] at h3
      exact k1 loc st' h H locs ls h3 (yg_st g gs)
    · rw [z_lc, hx, hy] at q
      rw [if_neg (show ¬ a.2 = b.2 from q)] at h3
      exact k2 loc st' h H locs ls h3 (yg_st g gs)
  · exact hp.elim
theorem yr_lne (X : hCx D cl cy L p s m args c cc nL tys Ts own) {off : Int} {tgt : Nat} (hd : decode cc pc = .ok (.lcmp, 1)) (hd2 : decode cc (pc + 1) = .ok (.ifCond .ne off, 3)) (ht : ((pc + 1 : Nat) : Int) + off = (tgt : Int)) (k1 : yGo η kds D cl cy L Θ nL p l e R s m args below meth c Q (tgt) (P1)) (k2 : yGo η kds D cl cy L Θ nL p l e R s m args below meth c Q (pc + 1 + 3) (P2)) : yGo η kds D cl cy L Θ nL p l e R s m args below meth c Q (pc) (yLEq P2 P1) := by
  intro loc st h H locs ls hp g
  unfold yLEq at hp
  split at hp
  · rename_i b a st'
    obtain ⟨⟨h1, h2⟩, h3⟩ := hp
    obtain ⟨x, ex, hx⟩ := y_long (η := η) (g.2.2.1 a (List.mem_cons_of_mem _ List.mem_cons_self)) h1
    obtain ⟨y, ey, hy⟩ := y_long (η := η) (g.2.2.1 b List.mem_cons_self) h2
    have gs : ∀ q ∈ st', yok Θ q := fun q hq => g.2.2.1 q (List.mem_cons_of_mem _ (List.mem_cons_of_mem _ hq))
    rw [List.map_cons, List.map_cons, ex, ey]
    refine W.lcmp X.1 X.2.1 hd ?_
    refine z_ic0 X.1 X.2.1 hd2 ht (fun q => ?_) (fun q => ?_)
    · rw [z_lc, hx, hy] at q
      rw [if_neg (show ¬ a.2 = b.2 from q)] at h3
      exact k1 loc st' h H locs ls h3 (yg_st g gs)
    · rw [z_lc, hx, hy] at q
      have q' : a.2 = b.2 := Classical.byContradiction q
      rw [if_pos q'] at h3
      exact k2 loc st' h H locs ls h3 (yg_st g gs)
  · exact hp.elim
theorem yr_ifnull (X : hCx D cl cy L p s m args c cc nL tys Ts own) {off : Int} {tgt : Nat} (hd : decode cc pc = .ok (.ifnull off, 3)) (ht : (pc : Int) + off = (tgt : Int)) (k1 : yGo η kds D cl cy L Θ nL p l e R s m args below meth c Q (tgt) (P1)) (k2 : yGo η kds D cl cy L Θ nL p l e R s m args below meth c Q (pc + 3) (P2)) : yGo η kds D cl cy L Θ nL p l e R s m args below meth c Q (pc) (yNull P1 P2) := by
  intro loc st h H locs ls hp g
  unfold yNull at hp
  split at hp
  · rename_i a st'
    have gs : ∀ q ∈ st', yok Θ q := fun q hq => g.2.2.1 q (List.mem_cons_of_mem _ hq)
    rw [List.map_cons]
    rcases y_nul (η := η) (g.2.2.1 a List.mem_cons_self) hp.1 with ⟨h1, ex⟩ | ⟨h1, ex⟩
    · rw [ex]
      have h3 := hp.2
      rw [if_pos h1] at h3
      exact lv_ifnullN X.1 X.2.1 hd ht (k1 loc st' h H locs ls h3 (yg_st g gs))
    · rw [ex]
      have h3 := hp.2
      rw [if_neg (by omega)] at h3
      exact lv_ifnull X.1 X.2.1 hd (k2 loc st' h H locs ls h3 (yg_st g gs))
  · exact hp.elim
theorem yr_ifnonnull (X : hCx D cl cy L p s m args c cc nL tys Ts own) {off : Int} {tgt : Nat} (hd : decode cc pc = .ok (.ifnonnull off, 3)) (ht : (pc : Int) + off = (tgt : Int)) (k1 : yGo η kds D cl cy L Θ nL p l e R s m args below meth c Q (tgt) (P1)) (k2 : yGo η kds D cl cy L Θ nL p l e R s m args below meth c Q (pc + 3) (P2)) : yGo η kds D cl cy L Θ nL p l e R s m args below meth c Q (pc) (yNull P2 P1) := by
  intro loc st h H locs ls hp g
  unfold yNull at hp
  split at hp
  · rename_i a st'
    have gs : ∀ q ∈ st', yok Θ q := fun q hq => g.2.2.1 q (List.mem_cons_of_mem _ hq)
    rw [List.map_cons]
    rcases y_nul (η := η) (g.2.2.1 a List.mem_cons_self) hp.1 with ⟨h1, ex⟩ | ⟨h1, ex⟩
    · rw [ex]
      have h3 := hp.2
      rw [if_pos h1] at h3
      exact lv_ifnonnullN X.1 X.2.1 hd (k2 loc st' h H locs ls h3 (yg_st g gs))
    · rw [ex]
      have h3 := hp.2
      rw [if_neg (by omega)] at h3
      exact lv_ifnonnull X.1 X.2.1 hd ht (k1 loc st' h H locs ls h3 (yg_st g gs))
  · exact hp.elim
end YRH
end
section
variable {η : zRn}
/-! methods -/
/-- what a method's end says -/
def yQ (η : zRn) (kds : List zKD) (D : va_G) (cl : List vw_C) (cy : Nat → ClassId) (L : List Nat) (Θ : Nat → Option Nat) (vd : Bool) (Qr : yQt) : Array Value → State → Outcome → State → Prop := fun _ st oc t =>
  ∃ (v : Option Value) (a : yV) (h' : yH), oc = .returned v ∧ v = (if vd = true then none else some (yvo η a)) ∧ yok Θ a ∧ Qr a h' ∧ zH η kds D cl cy L Θ h' t.heap ∧ va_F (fun q => q ∈ L) st t
abbrev yY : Type := MethodName × ByteArray × Nat × Option FieldType
/-- a contract: from the tags of its values and what it does to numbers and cells -/
def yMet (kds : List zKD) (cl : List vw_C) (TW : List Cond) (KP : zKPt) (l : Launch) (y : yY) (fr lo : Nat) (tags : List Nat) (B : yB) : Prop :=
  ∀ (η : zRn) (D : va_G) (cy : Nat → ClassId) (L : List Nat) (Θ : Nat → Option Nat) (h : yH) (xs : List yV) (Qr : yQt), L.Nodup → xs.map Prod.fst = tags → (∀ a ∈ xs, yok Θ a) → B Θ (xs.map Prod.snd) h Qr →
    Met l y.1 (Cond.code y.1 y.2.1 y.2.2.1 y.2.2.2 :: TW) ({ frames := fr, cells := 0, slots := 0, locals := lo } : Room) (va_Pc (xs.map (yvo η)) (fun U => zH η kds D cl cy L Θ h U.heap ∧ KP η D cy L Θ U)) (yQ η kds D cl cy L Θ y.2.2.2.isNone Qr) 0 0 (fun q => q ∈ L)
/-- all that a walk takes as known of its method -/
def yCz (η : zRn) (kds : List zKD) (D : va_G) (cl : List vw_C) (cy : Nat → ClassId) (L : List Nat) (Θ : Nat → Option Nat) (nL : Nat) (p : Program) (l : Launch) (e : Env) (R : Room) (s : State) (m : MethodId) (args : Array Value) (below : List Frame) (meth : Method) (c : Code) (Q : State → Prop)
    (cc : ByteArray) (tys : List (ClassId × FieldType)) (own : String) (TW : List Cond) (KP : zKPt) (tyf : (Nat → ClassId) → List (ClassId × FieldType)) (ret : Option FieldType) (fr lo : Nat) (Qr : yQt) : Prop :=
  hCx D cl cy L p s m args c cc nL tys TW own ∧ (∃ w0, ∀ w ∈ w0 :: TW, w.before args s = true) ∧ KP η D cy L Θ s ∧ zKPok cl tyf KP ∧ zgoodW TW ∧ (R.frames = fr ∧ R.locals = lo) ∧ meth.sig.returnType = ret ∧ meth.locks = false ∧ Q = MQ below (yQ η kds D cl cy L Θ ret.isNone Qr) args s 0 0 (fun q => q ∈ L)
section YMT
variable {kds : List zKD} {D : va_G} {cl : List vw_C} {cy : Nat → ClassId} {L : List Nat} {Θ : Nat → Option Nat} {nL : Nat}
variable {p : Program} {l : Launch} {e : Env} {R : Room} {s : State} {m : MethodId} {args : Array Value} {below : List Frame} {meth : Method} {c : Code} {Q : State → Prop}
variable {cc : ByteArray} {pc : Nat} {tys : List (ClassId × FieldType)} {own : String} {TW : List Cond} {KP : zKPt} {tyf : (Nat → ClassId) → List (ClassId × FieldType)} {ret : Option FieldType} {fr lo : Nat} {Qr : yQt} {P : yP}
theorem y_end {loc : yL} {st : List yV} {h : yH} {H : Heap} {locs : List Loc} {ls : Array Slot} {v : Option Value} {a : yV} {t : State} (g : yG η kds D cl cy L Θ s.heap nL loc st h H locs ls) (hv : v = (if ret.isNone = true then none else some (yvo η a))) (ha : yok Θ a) (hq : Qr a h) (ht : t.heap = H) : yQ η kds D cl cy L Θ ret.isNone Qr args s (.returned v) t := by
  refine ⟨v, a, h, rfl, hv, ha, hq, by rw [ht]; exact g.2.2.2.1, by rw [ht]; exact g.2.2.2.2.1, fun q h1 h2 => ?_⟩
  rw [ht]
  exact g.2.2.2.2.2.1 q h1 h2
theorem yr_ri (Z : yCz η kds D cl cy L Θ nL p l e R s m args below meth c Q cc tys own TW KP tyf ret fr lo Qr) (hr : ret = some .int) (hd : decode cc pc = .ok (.ireturn, 1)) : yGo η kds D cl cy L Θ nL p l e R s m args below meth c Q (pc) (yRi Qr) := by
  intro loc st h H locs ls hp g
  unfold yRi at hp
  split at hp
  · rename_i a
    obtain ⟨X, -, -, -, -, -, h1, h2, rfl⟩ := Z
    have ga := g.2.2.1 a List.mem_cons_self
    obtain ⟨x, ex, hx⟩ := y_int (η := η) ga hp.1
    have hv : some (Value.int x) = (if ret.isNone = true then none else some (yvo η a)) := by rw [hr, ex]; rfl
    rw [List.map_cons, ex]
    exact W.iret X.1 X.2.1 (h1.trans hr) (fun t ht _ => y_end g hv ga hp.2 ht) (fun q hq => g.2.2.2.2.2.2 q hq) hd h2
  · exact hp.elim
theorem yr_rz (Z : yCz η kds D cl cy L Θ nL p l e R s m args below meth c Q cc tys own TW KP tyf ret fr lo Qr) (hr : ret = some .boolean) (hd : decode cc pc = .ok (.ireturn, 1)) : yGo η kds D cl cy L Θ nL p l e R s m args below meth c Q (pc) (yRz Qr) := by
  intro loc st h H locs ls hp g
  unfold yRz at hp
  split at hp
  · rename_i a
    obtain ⟨X, -, -, -, -, -, h1, h2, rfl⟩ := Z
    have ga := g.2.2.1 a List.mem_cons_self
    obtain ⟨x, ex, hx⟩ := y_int (η := η) ga hp.1
    have hv : some (Value.int x) = (if ret.isNone = true then none else some (yvo η a)) := by rw [hr, ex]; rfl
    have hb := z_b01 ⟨a.2.toNat, by have := hp.2.1; omega⟩
    simp only at hb
    rw [show ((a.2.toNat : Nat) : Int) = x.toInt by have := hp.2.1; omega, z_ofi] at hb
    rw [List.map_cons, ex]
    exact W.zret X.1 X.2.1 (h1.trans hr) hb.1 (fun t ht _ => y_end g hv ga hp.2.2 ht) (fun q hq => g.2.2.2.2.2.2 q hq) hd h2
  · exact hp.elim
theorem yr_ra (Z : yCz η kds D cl cy L Θ nL p l e R s m args below meth c Q cc tys own TW KP tyf ret fr lo Qr) {kk : Nat} {C : String} (h9 : kk < 100000) (hr : ret = some (.object C)) (hd : decode cc pc = .ok (.areturn, 1)) : yGo η kds D cl cy L Θ nL p l e R s m args below meth c Q (pc) (yRa kk Qr) := by
  intro loc st h H locs ls hp g
  unfold yRa at hp
  split at hp
  · rename_i a
    obtain ⟨X, -, -, -, -, -, h1, h2, rfl⟩ := Z
    have ga := g.2.2.1 a List.mem_cons_self
    have ga2 : yok Θ (kk + 2, a.2) := by
      unfold yok at ga ⊢
      rw [if_pos (by simp only; omega)]
      rcases hp.1 with e | e | e
      · rw [if_neg (by omega)] at ga
        refine Or.inr ⟨ga.1, ?_⟩
        rw [ga.2, e]
        exact congrArg some (by omega)
      · rw [if_pos (by omega), e] at ga
        exact ga
      · exact Or.inl e.2
    have ev : yvo η a = yvo η (kk + 2, a.2) := by
      obtain ⟨t, n⟩ := a
      have h2t : 2 ≤ t := by
        rcases hp.1 with e | e | e
        · simp only at e; omega
        · simp only at e; omega
        · exact e.1
      match t, h2t with
      | t + 2, _ => rfl
    have hv : some (yvo η a) = (if ret.isNone = true then none else some (yvo η (kk + 2, a.2))) := by rw [hr, ev]; rfl
    have hn : yvo η a = .null ∨ ∃ x, yvo η a = .ref x := by
      rw [ev]
      rcases y_nul (η := η) ga2 (by simp only; omega) with ⟨-, q⟩ | ⟨-, q⟩
      · exact Or.inl q
      · exact Or.inr ⟨_, q⟩
    rw [List.map_cons]
    exact W.aret X.1 X.2.1 (h1.trans hr) (Or.inl ⟨_, rfl⟩) hn (fun t ht _ => y_end g hv ga2 hp.2 ht) (fun q hq => g.2.2.2.2.2.2 q hq) hd h2
  · exact hp.elim
theorem yr_rv (Z : yCz η kds D cl cy L Θ nL p l e R s m args below meth c Q cc tys own TW KP tyf ret fr lo Qr) (hr : ret = none) (hd : decode cc pc = .ok (.return_, 1)) : yGo η kds D cl cy L Θ nL p l e R s m args below meth c Q (pc) (yRv Qr) := by
  intro loc st h H locs ls hp g
  unfold yRv at hp
  split at hp
  · obtain ⟨X, -, -, -, -, -, h1, h2, rfl⟩ := Z
    have hv : (none : Option Value) = (if ret.isNone = true then none else some (yvo η (0, 0))) := by rw [hr]; rfl
    exact W.vret X.1 X.2.1 (h1.trans hr) (fun t ht _ => y_end g hv (y_i (by omega) (by omega)) hp ht) (fun q hq => g.2.2.2.2.2.2 q hq) hd h2
  · exact hp.elim
/-- what a call needs -/
def yHrun (η : zRn) (kds : List zKD) (D : va_G) (cl : List vw_C) (cy : Nat → ClassId) (L : List Nat) (Θ : Nat → Option Nat) (nL : Nat) (p : Program) (l : Launch) (e : Env) (R : Room) (s : State) (m : MethodId) (args : Array Value) (below : List Frame) (meth : Method) (c : Code) (pc : Nat) (tags : List Nat) (B : yB) (vd : Bool) : Prop :=
  ∀ (xs : List yV) (h : yH) (H : Heap) (locs : List Loc) (ls : Array Slot) (rest : List Value) (Qr : yQt), xs.map Prod.fst = tags → (∀ a ∈ xs, yok Θ a) → B Θ (xs.map Prod.snd) h Qr → zH η kds D cl cy L Θ h H → va_S (fun q => q ∈ L) s.heap H locs → ls.size = nL → (rest.map (fun v => v.category)).sum ≤ 8 →
    va_Run p l e R s m args below meth c H locs 0 0 0 0 (F0 m pc ls ((xs.map (yvo η)).reverse ++ rest)) rest (yQ η kds D cl cy L Θ vd Qr (xs.map (yvo η)).toArray) (fun q => q ∈ L)
theorem y_cat8 : ∀ {st : List yV}, ((st.map (yvo η)).map (fun v => v.category)).sum ≤ 2 * st.length := by
  intro st
  induction st with
  | nil => simp
  | cons a r ih =>
    simp only [List.map_cons, List.sum_cons, List.length_cons]
    have : (yvo η a).category ≤ 2 := by
      by_cases h : a.1 = 1
      · have := y_cat (η := η) a
        rw [h] at this
        have h2 : (yvo η a).category = 2 := by simpa using this
        omega
      · rw [y_cat1 a h]; omega
    omega
theorem y_cal {n : Nat} {tags : List Nat} {B : yB} {vd : Bool} {loc : yL} {st : List yV} {h : yH} {H : Heap} {locs : List Loc} {ls : Array Slot} {Qr' : yQt} (hn : tags.length = n) (hrun : yHrun η kds D cl cy L Θ nL p l e R s m args below meth c pc tags B vd) (g : yG η kds D cl cy L Θ s.heap nL loc st h H locs ls) (h1 : n ≤ st.length ∧ (st.drop n).length ≤ 4) (h2 : (st.take n).reverse.map Prod.fst = tags) (h3 : B Θ ((st.take n).reverse.map Prod.snd) h Qr')
    (kk : ∀ (a : yV) (h' : yH) (H' : Heap) (locs' : List Loc), Qr' a h' → yok Θ a → zH η kds D cl cy L Θ h' H' → va_S (fun q => q ∈ L) s.heap H' locs' → W p l e R s m args below meth c H' locs' 0 0 Q (F0 m (pc + 3) ls ((if vd = true then (none : Option Value) else some (yvo η a)).toList ++ (st.drop n).map (yvo η)))) : W p l e R s m args below meth c H locs 0 0 Q (F0 m pc ls (st.map (yvo η))) := by
  have es : st.map (yvo η) = (((st.take n).reverse).map (yvo η)).reverse ++ (st.drop n).map (yvo η) := by
    rw [← List.map_reverse, List.reverse_reverse, ← List.map_append, List.take_append_drop]
  rw [es]
  have c8 := y_cat8 (η := η) (st := st.drop n)
  have hr := hrun ((st.take n).reverse) h H locs ls ((st.drop n).map (yvo η)) Qr' h2 (fun a ha => g.2.2.1 a (List.mem_of_mem_take (List.mem_reverse.mp ha))) h3 g.2.2.2.1 g.2.2.2.2 g.2.1.1 (by omega)
  intro T hT X
  obtain ⟨v, st₀, t, T', L', hh0, X', hL', e1, e2, ⟨v', a, h', hv, hv2, oa, oq, oH, oF⟩, stp⟩ := hr T hT X
  cases hv
  have gF := g.2.2.2.2
  have w := kk a h' t.heap (locs ++ L') oq oa oH ⟨Nat.le_trans gF.1 (by rw [← hh0]; exact oF.1), fun q hq hA => by
    have hq' : q < st₀.heap.size := by rw [hh0]; exact Nat.lt_of_lt_of_le hq gF.1
    rw [oF.2 q hq' hA, hh0]
    exact gF.2.1 q hq hA, fun q hq => by
    rcases List.mem_append.mp hq with hq | hq
    · exact gF.2.2 q hq
    · exact hL' q hq⟩
  rw [← hv2] at w
  obtain ⟨t2, q1, q2⟩ := w T' e1 X'
  exact ⟨t2, stp t2 q1, q2⟩
theorem yr_calR {n : Nat} {tags : List Nat} {B : yB} (hn : tags.length = n) (hrun : yHrun η kds D cl cy L Θ nL p l e R s m args below meth c pc tags B false) (k : yGo η kds D cl cy L Θ nL p l e R s m args below meth c Q (pc + 3) (P)) : yGo η kds D cl cy L Θ nL p l e R s m args below meth c Q (pc) (yCalR Θ n tags B P) := by
  intro loc st h H locs ls hp g
  obtain ⟨h1, h2, h3⟩ := hp
  exact y_cal hn hrun g h1 h2 h3 (fun a h' H' locs' oq oa oH oS => k loc (a :: st.drop n) h' H' locs' ls (oq oa) ⟨g.1, g.2.1, fun b hb => by
    rcases List.mem_cons.mp hb with rfl | hb
    · exact oa
    · exact g.2.2.1 b (List.mem_of_mem_drop hb), oH, oS⟩)
theorem yr_calV {n : Nat} {tags : List Nat} {B : yB} (hn : tags.length = n) (hrun : yHrun η kds D cl cy L Θ nL p l e R s m args below meth c pc tags B true) (k : yGo η kds D cl cy L Θ nL p l e R s m args below meth c Q (pc + 3) (P)) : yGo η kds D cl cy L Θ nL p l e R s m args below meth c Q (pc) (yCalV Θ n tags B P) := by
  intro loc st h H locs ls hp g
  obtain ⟨h1, h2, h3⟩ := hp
  exact y_cal hn hrun g h1 h2 h3 (fun a h' H' locs' oq oa oH oS => k loc (st.drop n) h' H' locs' ls oq ⟨g.1, g.2.1, fun b hb => g.2.2.1 b (List.mem_of_mem_drop hb), oH, oS⟩)
/-- what is known of a method that is called: of an object's, of a static one -/
def yCV (kds : List zKD) (cl : List vw_C) (TW : List Cond) (own : String) (cc : ByteArray) (fr lo pc : Nat) (y : yY) (fr' lo' : Nat) (tags : List Nat) : Prop :=
  ∃ idx : Nat, decode cc pc = .ok (.invokevirtual idx, 3) ∧ Cond.methodLink own idx y.1 ∈ TW ∧ Cond.instanceMethod y.1 ∈ TW ∧ Cond.selects y.1.cls y.1 y.1 ∈ TW ∧ Cond.initialized y.1.cls ∈ TW ∧ Cond.code y.1 y.2.1 y.2.2.1 y.2.2.2 ∈ TW ∧ (y.1.cls ≠ "java/lang/invoke/MethodHandle" ∧ y.1.cls ≠ "java/lang/invoke/VarHandle") ∧
    (parseMethodDescriptor y.1.desc).map (fun d => d.parameters.length) = some (tags.length - 1) ∧ fr' + 1 ≤ fr ∧ 8 + (y.2.2.1 + 11) + lo' ≤ lo ∧
    ∃ (kk : Nat) (ts : List Nat) (K : zKD) (T : u_T) (N : Nat), tags = (kk + 100002) :: ts ∧ kds[kk]? = some K ∧ K.1 = 0 ∧ cl[K.2.1]? = some (y.1.cls, T, N)
def yCS (TW : List Cond) (own : String) (cc : ByteArray) (fr lo pc : Nat) (y : yY) (fr' lo' : Nat) (tags : List Nat) : Prop :=
  ∃ idx : Nat, decode cc pc = .ok (.invokestatic idx, 3) ∧ Cond.methodLink own idx y.1 ∈ TW ∧ Cond.static y.1 ∈ TW ∧ Cond.initialized y.1.cls ∈ TW ∧ Cond.code y.1 y.2.1 y.2.2.1 y.2.2.2 ∈ TW ∧ (y.1.cls ≠ "java/lang/invoke/MethodHandle" ∧ y.1.cls ≠ "java/lang/invoke/VarHandle") ∧
    (parseMethodDescriptor y.1.desc).map (fun d => d.parameters.length) = some tags.length ∧ fr' + 1 ≤ fr ∧ 8 + (y.2.2.1 + 11) + lo' ≤ lo
theorem y_hrunV (Z : yCz η kds D cl cy L Θ nL p l e R s m args below meth c Q cc tys own TW KP tyf ret fr lo Qr) {y : yY} {fr' lo' : Nat} {tags : List Nat} {B : yB} (hM : yMet kds cl TW KP l y fr' lo' tags B) (hC : yCV kds cl TW own cc fr lo pc y fr' lo' tags) : yHrun η kds D cl cy L Θ nL p l e R s m args below meth c pc tags B y.2.2.2.isNone := by
  intro xs h H locs ls rest Qr' ht hA hB hH hS hsz hcat
  obtain ⟨⟨hexec, hb, hml, hts, hown, hKa, hTy, hnd⟩, ⟨w0, hw0⟩, hK, hKP, hg, ⟨hfr, hlo⟩, -, -, -⟩ := Z
  obtain ⟨idx, hd, m1, m2, m3, m4, m5, m6, m7, m8, m9, kk, ts, K, T, N, et, eK, eK0, eC⟩ := hC
  have hMM := hM η D cy L Θ h xs Qr' hnd ht hA hB
  cases xs with
  | nil => rw [et] at ht; cases ht
  | cons r ea =>
    have hr1 : r.1 = kk + 100002 := by
      rw [et] at ht
      simp only [List.map_cons, List.cons.injEq] at ht
      exact ht.1
    obtain ⟨a1, Θa, ea1⟩ := y_ref (η := η) (hA r List.mem_cons_self) hr1
    obtain ⟨q0, hq⟩ := zH_get hH Θa eK (by omega)
    rw [zE_o eK0] at hq
    have hrec := va_recv hKa hH.1 eC hq
    rw [List.map_cons, ea1] at hMM ⊢
    have hlen : ea.length = tags.length - 1 := by rw [← ht]; simp
    refine va_runV (C := y.1.cls) (n := tags.length - 1) (As := ea.map (yvo η)) (bytes := y.2.1) (maxL := y.2.2.1) (ret := y.2.2.2) (Ts := w0 :: TW) (own := own) ⟨hexec, hb, hml, hown, hw0⟩ hMM ⟨callB_of _ hw0 (z_good hg m5) rfl rfl rfl (hts _ m4) (hts _ m1) ⟨m6.1, m6.2, m7⟩ ⟨by rw [hfr]; exact m8, by rw [hlo]; exact m9⟩, hts _ m2, hts _ m3⟩ ⟨z_blind hKP, hrec, fun U hU hW => ⟨rfl, by rw [hU]; exact hH, ?_⟩⟩ rfl (by simpa using hlen) hsz (by simp) (by simpa using hcat) hd ⟨Nat.zero_le _, Nat.zero_le _⟩
    exact hKP.2.1 _ _ _ _ _ s U hK hW (by rw [hU]; exact hS.1) (fun q h1 h2 => by rw [hU]; exact hS.2.1 q h1 h2)
theorem y_hrunS (Z : yCz η kds D cl cy L Θ nL p l e R s m args below meth c Q cc tys own TW KP tyf ret fr lo Qr) {y : yY} {fr' lo' : Nat} {tags : List Nat} {B : yB} (hM : yMet kds cl TW KP l y fr' lo' tags B) (hC : yCS TW own cc fr lo pc y fr' lo' tags) : yHrun η kds D cl cy L Θ nL p l e R s m args below meth c pc tags B y.2.2.2.isNone := by
  intro xs h H locs ls rest Qr' ht hA hB hH hS hsz hcat
  obtain ⟨⟨hexec, hb, hml, hts, hown, hKa, hTy, hnd⟩, ⟨w0, hw0⟩, hK, hKP, hg, ⟨hfr, hlo⟩, -, -, -⟩ := Z
  obtain ⟨idx, hd, m1, m2, m4, m5, m6, m7, m8, m9⟩ := hC
  have hMM := hM η D cy L Θ h xs Qr' hnd ht hA hB
  have hlen : xs.length = tags.length := by rw [← ht]; simp
  refine va_runS (n := tags.length) (As := xs.map (yvo η)) (bytes := y.2.1) (maxL := y.2.2.1) (ret := y.2.2.2) (Ts := w0 :: TW) (own := own) ⟨hexec, hb, hml, hown, hw0⟩ hMM ⟨callB_of _ hw0 (z_good hg m5) rfl rfl rfl (hts _ m4) (hts _ m1) ⟨m6.1, m6.2, m7⟩ ⟨by rw [hfr]; exact m8, by rw [hlo]; exact m9⟩, hts _ m2⟩ ⟨z_blind hKP, fun U hU hW => ⟨rfl, by rw [hU]; exact hH, ?_⟩⟩ rfl (by simpa using hlen) hsz rfl (by simpa using hcat) hd ⟨Nat.zero_le _, Nat.zero_le _⟩
  exact hKP.2.1 _ _ _ _ _ s U hK hW (by rw [hU]; exact hS.1) (fun q h1 h2 => by rw [hU]; exact hS.2.1 q h1 h2)
end YMT
/-- the places of values among the locals -/
def yar : Nat → List yV → yL
  | _, [] => []
  | i, a :: r => (i, a) :: yar (i + if a.1 = 1 then 2 else 1) r
def ywd : List Nat → Nat
  | [] => 0
  | t :: r => (if t = 1 then 2 else 1) + ywd r
theorem y_args : ∀ {xs : List yV} {i : Nat}, lv_args i (xs.map (yvo η)) = (yar i xs).map (fun q => (q.1, yvo η q.2)) := by
  intro xs
  induction xs with
  | nil => intro i; rfl
  | cons a r ih =>
    intro i
    simp only [List.map_cons, lv_args, yar]
    congr 1
    have hc : ((yvo η a).category = 2) ↔ a.1 = 1 := by
      have := y_cat (η := η) a
      constructor
      · intro h
        rw [h] at this
        simpa using this.symm
      · intro h
        rw [h] at this
        simpa using this
    by_cases h : a.1 = 1
    · rw [if_pos (hc.mpr h), if_pos h]
      exact ih
    · rw [if_neg (fun q => h (hc.mp q)), if_neg h]
      exact ih
theorem y_wid : ∀ {xs : List yV}, (lg_sl (xs.map (yvo η))).length = ywd (xs.map Prod.fst) := by
  intro xs
  induction xs with
  | nil => rfl
  | cons a r ih =>
    unfold lg_sl at ih ⊢
    simp only [List.map_cons, List.flatMap_cons, List.length_append, ywd]
    rw [ih]
    congr 1
    by_cases h : a.1 = 1
    · have : (yvo η a).category = 2 := by
        have := y_cat (η := η) a
        rw [h] at this
        simpa using this
      rw [if_pos this, if_pos h]
      rfl
    · rw [y_cat1 a h, if_neg h]
      rfl
theorem y_arm {Θ : Nat → Option Nat} : ∀ {xs : List yV} {i : Nat}, (∀ a ∈ xs, yok Θ a) → ∀ q ∈ yar i xs, yok Θ q.2 := by
  intro xs
  induction xs with
  | nil => intro i _ q hq; cases hq
  | cons a r ih =>
    intro i ha q hq
    simp only [yar] at hq
    rcases List.mem_cons.mp hq with rfl | hq
    · exact ha a List.mem_cons_self
    · exact ih (fun b hb => ha b (List.mem_cons_of_mem _ hb)) q hq
/-- a method whose walk is sound keeps its contract -/
theorem y_met {kds : List zKD} {cl : List vw_C} {TW : List Cond} {KP : zKPt} {tyf : (Nat → ClassId) → List (ClassId × FieldType)} {l : Launch} (hKP : zKPok cl tyf KP) (hg : zgoodW TW) (y : yY) (fr lo : Nat) (tags : List Nat) (B : yB) (E : (Nat → Option Nat) → List yV → yH → yQt → yP) (hy : plainName y.1.cls = true) (hw : ywd tags ≤ y.2.2.1)
    (hE : ∀ (Θ : Nat → Option Nat) (xs : List yV) (h : yH) (Qr : yQt), xs.map Prod.fst = tags → (∀ a ∈ xs, yok Θ a) → B Θ (xs.map Prod.snd) h Qr → E Θ xs h Qr (yar 0 xs) [] h)
    (hgo : ∀ (η : zRn) (D : va_G) (cy : Nat → ClassId) (L : List Nat) (Θ : Nat → Option Nat) (p : Program) (e : Env) (R : Room) (s : State) (m : MethodId) (args : Array Value) (below : List Frame) (meth : Method) (c : Code) (Q : State → Prop) (xs : List yV) (h : yH) (Qr : yQt), (∀ a ∈ xs, yok Θ a) → xs.map Prod.fst = tags →
      yCz η kds D cl cy L Θ y.2.2.1 p l e R s m args below meth c Q y.2.1 (tyf cy) y.1.cls TW KP tyf y.2.2.2 fr lo Qr → yGo η kds D cl cy L Θ y.2.2.1 p l e R s m args below meth c Q 0 (E Θ xs h Qr)) : yMet kds cl TW KP l y fr lo tags B := by
  intro η D cy L Θ h xs Qr hnd ht hA hB
  refine Met.ofW (cc := y.2.1) (maxL := y.2.2.1) (ret := y.2.2.2) hy rfl ?_
  intro p e s m args below meth c s₁ B' hml hv
  obtain ⟨rfl, hH, hK⟩ := hv
  have hts := atoms_spec (ws := Cond.code y.1 y.2.1 y.2.2.1 y.2.2.2 :: TW) B'.pre
  have hown : s.vm.findClass y.1.cls = some m.cls := findClass_of_methodNamed B'.named
  obtain ⟨hKa, hTy⟩ := hKP.1 _ _ _ _ _ _ hK
  have hgo' := hgo η D cy L Θ p e (headSpec (Cond.code y.1 y.2.1 y.2.2.1 y.2.2.2 :: TW) ({ frames := fr, cells := 0, slots := 0, locals := lo } : Room)).room s m (xs.map (yvo η)).toArray below meth c _ xs h Qr hA ht ⟨⟨B'.exec, B'.bytes, hml, fun w hw => hts w (List.mem_cons_of_mem _ hw), hown, hKa, hTy, hnd⟩, ⟨_, hts⟩, hK, hKP, hg, ⟨rfl, rfl⟩, B'.returns, B'.notSynchronized, rfl⟩
  have hl := lv_entry (xs.map (yvo η)) (n := y.2.2.1) (by rw [y_wid, ht]; exact hw)
  rw [lg_entry_eq]
  generalize (lg_sl (xs.map (yvo η)) ++ List.replicate (y.2.2.1 - (lg_sl (xs.map (yvo η))).length) Slot.unset).toArray = ls at hl ⊢
  rw [y_args] at hl
  exact hgo' (yar 0 xs) [] h s.heap [] ls (hE Θ xs h Qr ht hA hB) ⟨y_arm hA, hl, fun _ hq => (by cases hq), hH, va_S.rf⟩
theorem y_zip : ∀ {xs : List yV} {tags : List Nat}, xs.map Prod.fst = tags → tags.zip (xs.map Prod.snd) = xs := by
  intro xs
  induction xs with
  | nil => intro tags h; subst h; rfl
  | cons a r ih =>
    intro tags h
    subst h
    simp only [List.map_cons, List.zip_cons_cons]
    rw [ih rfl]
theorem ycv_of {kds : List zKD} {cl : List vw_C} {own : String} {cc : ByteArray} {fr lo pc : Nat} {y : yY} {fr' lo' n : Nat} {tags : List Nat} (hM : zMV y.1 y.2.1 y.2.2.1 y.2.2.2 n) (idx : Nat) (hd : decode cc pc = .ok (.invokevirtual idx, 3)) (hl : Cond.methodLink own idx y.1 ∈ zTW) (hn : n = tags.length - 1) (h1 : fr' + 1 ≤ fr) (h2 : 8 + (y.2.2.1 + 11) + lo' ≤ lo)
    (h3 : ∃ (kk : Nat) (ts : List Nat) (K : zKD) (T : u_T) (N : Nat), tags = (kk + 100002) :: ts ∧ kds[kk]? = some K ∧ K.1 = 0 ∧ cl[K.2.1]? = some (y.1.cls, T, N)) : yCV kds cl zTW own cc fr lo pc y fr' lo' tags :=
  ⟨idx, hd, hl, hM.2.1, hM.2.2, hM.1.1, hM.1.2.1, hM.1.2.2.1, by rw [← hn]; exact hM.1.2.2.2, h1, h2, h3⟩
theorem ycs_of {own : String} {cc : ByteArray} {fr lo pc : Nat} {y : yY} {fr' lo' n : Nat} {tags : List Nat} (hM : zMS y.1 y.2.1 y.2.2.1 y.2.2.2 n) (idx : Nat) (hd : decode cc pc = .ok (.invokestatic idx, 3)) (hl : Cond.methodLink own idx y.1 ∈ zTW) (hn : n = tags.length) (h1 : fr' + 1 ≤ fr) (h2 : 8 + (y.2.2.1 + 11) + lo' ≤ lo) : yCS zTW own cc fr lo pc y fr' lo' tags :=
  ⟨idx, hd, hl, hM.2, hM.1.1, hM.1.2.1, hM.1.2.2.1, by rw [← hn]; exact hM.1.2.2.2, h1, h2⟩
end
section
variable {η : zRn}
/-! loops: states at a head by the numbers of its locals -/
def yvs : List (Nat × Nat) → yL → Option (List Int)
  | [], _ => some []
  | (i, t) :: r, loc => match yfind loc i with
    | some a => if a.1 = t then (yvs r loc).map (fun vs => a.2 :: vs) else none
    | none => none
def ycan : List (Nat × Nat) → List Int → yL
  | (i, t) :: r, v :: vs => (i, (t, v)) :: ycan r vs
  | _, _ => []
theorem y_vsm {loc : yL} : ∀ {ls : List (Nat × Nat)} {vs : List Int}, yvs ls loc = some vs → ∀ q ∈ ycan ls vs, q ∈ loc := by
  intro ls
  induction ls with
  | nil =>
    intro vs h q hq
    simp [ycan] at hq
  | cons p r ih =>
    obtain ⟨i, t⟩ := p
    intro vs h q hq
    unfold yvs at h
    split at h
    · rename_i a ha
      split at h
      · rename_i ht
        cases hr : yvs r loc with
        | none => rw [hr] at h; cases h
        | some vs' =>
          rw [hr] at h
          simp only [Option.map_some, Option.some.injEq] at h
          subst h
          simp only [ycan] at hq
          rcases List.mem_cons.mp hq with rfl | hq
          · have hm := y_fm ha
            rw [← ht]
            exact hm
          · exact ih hr q hq
      · cases h
    · cases h
section YLP
variable {kds : List zKD} {D : va_G} {cl : List vw_C} {cy : Nat → ClassId} {L : List Nat} {Θ : Nat → Option Nat} {nL : Nat}
variable {p : Program} {l : Launch} {e : Env} {R : Room} {s : State} {m : MethodId} {args : Array Value} {below : List Frame} {meth : Method} {c : Code} {Q : State → Prop}
variable {pc : Nat} {P : yP} {ls0 : List (Nat × Nat)}
end YLP
/-! how walks are gone through -/
end
section
variable {η : zRn}
/-! further rows: quotients, Math, switches, the tables of the Reader, words, arraycopy -/
def yArg (op : Nat) (P : yP) : yP := fun loc st h => match st with
  | b :: a :: st' => (a.1 = 0 ∧ b.1 = 0) ∧ 1 ≤ b.2 ∧ P loc ((0, yari op a.2 b.2) :: st') h
  | _ => False
def yMax (P : yP) : yP := fun loc st h => match st with
  | b :: a :: st' => (a.1 = 0 ∧ b.1 = 0) ∧ st'.length ≤ 4 ∧ P loc ((0, max a.2 b.2) :: st') h
  | _ => False
def yMin (P : yP) : yP := fun loc st h => match st with
  | b :: a :: st' => (a.1 = 0 ∧ b.1 = 0) ∧ st'.length ≤ 4 ∧ P loc ((0, min a.2 b.2) :: st') h
  | _ => False
def yTab (tab : List Int) (i : Nat) (d : Int) (P : yP) : yP := fun loc st h => match yfind loc i with
  | some a => a.1 = 0 ∧ (0 ≤ a.2 + d ∧ a.2 + d < (tab.length : Int)) ∧ P loc ((0, tab.getD (a.2 + d).toNat 0) :: st) h
  | none => False
/-- a letter of a word -/
def zch (i j : Nat) : Int := ((zSb.getD i []).getD j 0).toInt
def ySln (kk : Nat) (P : yP) : yP := fun loc st h => match st with
  | a :: st' => a.1 = kk + 100002 ∧ (1000000 ≤ a.2 ∧ a.2 < 1000015) ∧ st'.length ≤ 4 ∧ P loc ((0, (zSl.getD ((a.2 - 1000000).toNat) 0 : Nat)) :: st') h
  | _ => False
def ySch (kk : Nat) (P : yP) : yP := fun loc st h => match st with
  | b :: a :: st' => (a.1 = kk + 100002 ∧ b.1 = 0) ∧ (1000000 ≤ a.2 ∧ a.2 < 1000015) ∧ (0 ≤ b.2 ∧ b.2 < ((zSl.getD ((a.2 - 1000000).toNat) 0 : Nat) : Int)) ∧ st'.length ≤ 4 ∧ P loc ((0, zch ((a.2 - 1000000).toNat) b.2.toNat) :: st') h
  | _ => False
def zcy (h : yH) (ds sr sp dp n : Nat) : yH := zrow h ds (va_cpy (h sr) (h ds) sp dp n)
def yCpy (k0 n0 k1 n1 : Nat) (P : yP) : yP := fun loc st h => match st with
  | n :: dp :: ds :: sp :: sr :: st' => (n.1 = 0 ∧ dp.1 = 0 ∧ ds.1 = k1 + 100002 ∧ sp.1 = 0 ∧ sr.1 = k0 + 100002) ∧ (0 ≤ n.2 ∧ 0 ≤ dp.2 ∧ 0 ≤ sp.2 ∧ sp.2 + n.2 ≤ (n0 : Int) ∧ dp.2 + n.2 ≤ (n1 : Int)) ∧ st'.length ≤ 4 ∧ P loc st' (zcy h ds.2.toNat sr.2.toNat sp.2.toNat dp.2.toNat n.2.toNat)
  | _ => False
/-- two arrays of numbers of one type, the one within the bounds of the other -/
def ycp (kds : List zKD) (k0 n0 k1 n1 : Nat) : Bool := match kds[k0]?, kds[k1]? with
  | some K0, some K1 => decide (K0.1 = 1) && decide (K1.1 = 1) && decide (K0.2.1 = K1.2.1) && decide (K1.2.1 ≤ 1) && decide (K0.2.2.1 = n0) && decide (K1.2.2.1 = n1) && zone K0 K1 && (decide (K1.2.1 = 0) || zba K1 (-128) 127)
  | _, _ => false
section YR2
variable {kds : List zKD} {D : va_G} {cl : List vw_C} {cy : Nat → ClassId} {L : List Nat} {Θ : Nat → Option Nat} {nL : Nat}
variable {p : Program} {l : Launch} {e : Env} {R : Room} {s : State} {m : MethodId} {args : Array Value} {below : List Frame} {meth : Method} {c : Code} {Q : State → Prop}
variable {cc : ByteArray} {pc : Nat} {tys : List (ClassId × FieldType)} {Ts : List Cond} {own : String} {P P1 P2 : yP}
variable {TW : List Cond} {KP : zKPt} {tyf : (Nat → ClassId) → List (ClassId × FieldType)} {ret : Option FieldType} {fr lo : Nat} {Qr : yQt}
theorem yr_arg {op : Nat} (hw : ∀ (x y : Int32) (H : Heap) (locs : List Loc) (ls : Array Slot) (rest : List Value), 1 ≤ y.toInt → W p l e R s m args below meth c H locs 0 0 Q (F0 m (pc + 1) ls (.int (zsem op x y) :: rest)) → W p l e R s m args below meth c H locs 0 0 Q (F0 m pc ls (.int y :: .int x :: rest))) (k : yGo η kds D cl cy L Θ nL p l e R s m args below meth c Q (pc + 1) (P)) : yGo η kds D cl cy L Θ nL p l e R s m args below meth c Q (pc) (yArg op P) := by
  intro loc st h H locs ls hp g
  unfold yArg at hp
  split at hp
  · rename_i b a st'
    obtain ⟨⟨h1, h2⟩, h3, h4⟩ := hp
    obtain ⟨x, ex, hx⟩ := y_int (η := η) (g.2.2.1 a (List.mem_cons_of_mem _ List.mem_cons_self)) h1
    obtain ⟨y, ey, hy⟩ := y_int (η := η) (g.2.2.1 b List.mem_cons_self) h2
    have es : (zsem op x y).toInt = yari op a.2 b.2 := by
      unfold yari
      rw [← hx, ← hy, z_ofi, z_ofi]
    have w := yr_bin g (y_i0 Θ (zsem op (Int32.ofInt a.2) (Int32.ofInt b.2))) h4 k
    rw [show (0, (zsem op (Int32.ofInt a.2) (Int32.ofInt b.2)).toInt) = ((0, yari op a.2 b.2) : yV) from rfl, y_vi es] at w
    rw [List.map_cons, List.map_cons, ex, ey]
    exact hw x y H locs ls _ (by rw [hy]; exact h3) w
  · exact hp.elim
theorem y_st2 {loc : yL} {i : Nat} {a : yV} {ls : Array Slot} (h : lv_has ls nL ((i, yvo η a) :: (loc.map fun q => (q.1, yvo η q.2)).filter (fun q => !(q.1 == i) && (!(q.1 == i + 1) && !(q.1 + 1 == i && q.2.category == 2))))) : lv_has ls nL ((yput (ydel loc (i + 1)) i a).map fun q => (q.1, yvo η q.2)) := by
  refine ⟨h.1, h.2.1, fun q hq => h.2.2 q ?_⟩
  unfold yput at hq
  rw [List.map_cons] at hq
  rcases List.mem_cons.mp hq with rfl | hq
  · exact List.mem_cons_self
  · obtain ⟨r, hr, rfl⟩ := List.mem_map.mp hq
    rw [y_del] at hr
    obtain ⟨hr1, hr2⟩ := List.mem_filter.mp hr
    rw [y_del] at hr1
    obtain ⟨hr3, hr4⟩ := List.mem_filter.mp hr1
    refine List.mem_cons_of_mem _ (List.mem_filter.mpr ⟨List.mem_map.mpr ⟨r, hr3, rfl⟩, ?_⟩)
    simp only
    rw [y_cat]
    simp only [Bool.and_eq_true] at hr2 hr4 ⊢
    exact ⟨hr2.1, hr4.1, hr2.2⟩
theorem yr_lst0 {i len : Nat} (hw : ∀ (x : Int64) (H : Heap) (locs : List Loc) (ls : Array Slot) (rest : List Value) (lv : List (Nat × Value)), lv_has ls nL lv → (∀ ls' : Array Slot, lv_has ls' nL ((i, .long x) :: lv.filter (fun q => !(q.1 == i) && (!(q.1 == i + 1) && !(q.1 + 1 == i && q.2.category == 2)))) → W p l e R s m args below meth c H locs 0 0 Q (F0 m (pc + len) ls' rest)) → W p l e R s m args below meth c H locs 0 0 Q (F0 m pc ls (.long x :: rest))) (k : yGo η kds D cl cy L Θ nL p l e R s m args below meth c Q (pc + len) (P)) : yGo η kds D cl cy L Θ nL p l e R s m args below meth c Q (pc) (ySt2 i P) := by
  intro loc st h H locs ls hp g
  unfold ySt2 at hp
  split at hp
  · rename_i a st'
    have ha := g.2.2.1 a List.mem_cons_self
    obtain ⟨x, ex, -⟩ := y_long (η := η) ha hp.1
    rw [List.map_cons, ex]
    refine hw x H locs ls _ _ g.2.1 (fun ls' hl' => ?_)
    rw [← ex] at hl'
    exact k _ st' h H locs ls' hp.2 ⟨fun q hq => by
      unfold yput at hq
      rcases List.mem_cons.mp hq with rfl | hq
      · exact ha
      · exact g.1 q (y_dsub q (y_dsub q hq)), y_st2 hl', fun b hb => g.2.2.1 b (List.mem_cons_of_mem _ hb), g.2.2.2.1, g.2.2.2.2⟩
  · exact hp.elim
theorem yr_lstore (X : hCx D cl cy L p s m args c cc nL tys Ts own) {i : Nat} (hi : i + 1 < nL) (hd : decode cc pc = .ok (.lstore i, 2)) (k : yGo η kds D cl cy L Θ nL p l e R s m args below meth c Q (pc + 2) (P)) : yGo η kds D cl cy L Θ nL p l e R s m args below meth c Q (pc) (ySt2 i P) := yr_lst0 (fun _ _ _ _ _ _ hl w => lv_lstore X.1 X.2.1 hd hl hi rfl w) k
theorem yr_div (X : hCx D cl cy L p s m args c cc nL tys Ts own) (hd : decode cc pc = .ok (.idiv, 1)) (k : yGo η kds D cl cy L Θ nL p l e R s m args below meth c Q (pc + 1) (P)) : yGo η kds D cl cy L Θ nL p l e R s m args below meth c Q (pc) (yArg 3 P) := yr_arg (fun _ _ _ _ _ _ hz w => lv_idiv X.1 X.2.1 hd (z_nz hz) w) k
theorem yr_rem (X : hCx D cl cy L p s m args c cc nL tys Ts own) (hd : decode cc pc = .ok (.irem, 1)) (k : yGo η kds D cl cy L Θ nL p l e R s m args below meth c Q (pc + 1) (P)) : yGo η kds D cl cy L Θ nL p l e R s m args below meth c Q (pc) (yArg 4 P) := yr_arg (fun _ _ _ _ _ _ hz w => lv_irem X.1 X.2.1 hd (z_nz hz) (by rw [z_rem hz]; exact w)) k
theorem yr_xor (X : hCx D cl cy L p s m args c cc nL tys Ts own) (hd : decode cc pc = .ok (.ixor, 1)) (k : yGo η kds D cl cy L Θ nL p l e R s m args below meth c Q (pc + 1) (P)) : yGo η kds D cl cy L Θ nL p l e R s m args below meth c Q (pc) (yAri 9 P) := yr_ari (fun _ _ _ _ _ _ w => lv_ixor X.1 X.2.1 hd w) k
theorem yr_max (Z : yCz η kds D cl cy L Θ nL p l e R s m args below meth c Q cc tys own TW KP tyf ret fr lo Qr) {idx : Nat} (hd : decode cc pc = .ok (.invokestatic idx, 3)) (h1 : Cond.methodLink own idx Lib.Math.max.name ∈ TW) (h2 : Cond.static Lib.Math.max.name ∈ TW) (h3 : Cond.initialized "java/lang/Math" ∈ TW) (h4 : Cond.code Lib.Math.max.name Lib.Math.max.code 2 (some .int) ∈ TW) (h5 : 1 ≤ fr) (h6 : 21 ≤ lo) (k : yGo η kds D cl cy L Θ nL p l e R s m args below meth c Q (pc + 3) (P)) : yGo η kds D cl cy L Θ nL p l e R s m args below meth c Q (pc) (yMax P) := by
  intro loc st h H locs ls hp g
  unfold yMax at hp
  split at hp
  · rename_i b a st'
    obtain ⟨⟨q1, q2⟩, q3, q4⟩ := hp
    obtain ⟨⟨hexec, hb, hml, hts, hown, hKa, hTy, hnd⟩, -, -, -, -, ⟨hfr, hlo⟩, -⟩ := Z
    obtain ⟨x, ex, hx⟩ := y_int (η := η) (g.2.2.1 a (List.mem_cons_of_mem _ List.mem_cons_self)) q1
    obtain ⟨y, ey, hy⟩ := y_int (η := η) (g.2.2.1 b List.mem_cons_self) q2
    have key : (if x < y then y else x).toInt = max a.2 b.2 := by
      rw [← hx, ← hy]
      by_cases hlt : x < y
      · have := Int32.lt_iff_toInt_lt.mp hlt
        rw [if_pos hlt]; omega
      · have : ¬ x.toInt < y.toInt := fun g => hlt (Int32.lt_iff_toInt_lt.mpr g)
        rw [if_neg hlt]; omega
    have c8 := y_cat8 (η := η) (st := st')
    have w := yr_bin g (by rw [← key]; exact y_i0 Θ _) q4 k
    rw [y_vi key] at w
    rw [List.map_cons, List.map_cons, ex, ey]
    exact va_mmax hexec hb (by rw [hml]; exact g.2.1.1.symm) hown (hts _ h1) (hts _ h2) (hts _ h3) (hts _ h4) (by omega) (by omega) (Nat.zero_le _) (Nat.zero_le _) hd w
  · exact hp.elim
theorem yr_min (Z : yCz η kds D cl cy L Θ nL p l e R s m args below meth c Q cc tys own TW KP tyf ret fr lo Qr) {idx : Nat} (hd : decode cc pc = .ok (.invokestatic idx, 3)) (h1 : Cond.methodLink own idx Lib.Math.min.name ∈ TW) (h2 : Cond.static Lib.Math.min.name ∈ TW) (h3 : Cond.initialized "java/lang/Math" ∈ TW) (h4 : Cond.code Lib.Math.min.name Lib.Math.min.code 2 (some .int) ∈ TW) (h5 : 1 ≤ fr) (h6 : 21 ≤ lo) (k : yGo η kds D cl cy L Θ nL p l e R s m args below meth c Q (pc + 3) (P)) : yGo η kds D cl cy L Θ nL p l e R s m args below meth c Q (pc) (yMin P) := by
  intro loc st h H locs ls hp g
  unfold yMin at hp
  split at hp
  · rename_i b a st'
    obtain ⟨⟨q1, q2⟩, q3, q4⟩ := hp
    obtain ⟨⟨hexec, hb, hml, hts, hown, hKa, hTy, hnd⟩, -, -, -, -, ⟨hfr, hlo⟩, -⟩ := Z
    obtain ⟨x, ex, hx⟩ := y_int (η := η) (g.2.2.1 a (List.mem_cons_of_mem _ List.mem_cons_self)) q1
    obtain ⟨y, ey, hy⟩ := y_int (η := η) (g.2.2.1 b List.mem_cons_self) q2
    have key : (if y < x then y else x).toInt = min a.2 b.2 := by
      rw [← hx, ← hy]
      by_cases hlt : y < x
      · have := Int32.lt_iff_toInt_lt.mp hlt
        rw [if_pos hlt]; omega
      · have : ¬ y.toInt < x.toInt := fun g => hlt (Int32.lt_iff_toInt_lt.mpr g)
        rw [if_neg hlt]; omega
    have c8 := y_cat8 (η := η) (st := st')
    have w := yr_bin g (by rw [← key]; exact y_i0 Θ _) q4 k
    rw [y_vi key] at w
    rw [List.map_cons, List.map_cons, ex, ey]
    exact va_mmin hexec hb (by rw [hml]; exact g.2.1.1.symm) hown (hts _ h1) (hts _ h2) (hts _ h3) (hts _ h4) (by omega) (by omega) (Nat.zero_le _) (Nat.zero_le _) hd w
  · exact hp.elim
/-! switches -/
/-- the cases of a switch, their places and walks: as the offsets say -/
theorem y_swc {x : Int} {Pd : yP} {pcI d : Int} {td : Nat} {loc : yL} {st : List yV} {h : yH} : ∀ {cs : List (Int × Nat × yP)} {ps : List (Int × Int)}, ps.length = cs.length → (∀ q ∈ ps.zip cs, q.1.1 = q.2.1 ∧ pcI + q.1.2 = (q.2.2.1 : Int)) → pcI + d = (td : Int) → ysw x Pd (cs.map fun q => (q.1, q.2.2)) loc st h → (∃ q ∈ cs, pcI + Op.lookupswitch.offset ps d x = (q.2.1 : Int) ∧ q.2.2 loc st h) ∨ (pcI + Op.lookupswitch.offset ps d x = (td : Int) ∧ Pd loc st h) := by
  intro cs
  induction cs with
  | nil =>
    intro ps hl _ hd hp
    cases ps with
    | nil => exact Or.inr ⟨hd, hp⟩
    | cons _ _ => simp at hl
  | cons c r ih =>
    intro ps hl hz hd hp
    cases ps with
    | nil => simp at hl
    | cons o os =>
      have h0 := hz (o, c) List.mem_cons_self
      simp only at h0
      obtain ⟨k, t, P⟩ := c
      obtain ⟨a, off⟩ := o
      simp only at h0
      simp only [List.map_cons, ysw] at hp
      rw [Op.lookupswitch.offset_cons]
      by_cases hx : x = k
      · rw [if_pos hx] at hp
        exact Or.inl ⟨(k, t, P), List.mem_cons_self, by rw [if_pos (by omega)]; exact h0.2, hp⟩
      · rw [if_neg hx] at hp
        rw [if_neg (by omega)]
        rcases ih (by simpa using hl) (fun q hq => hz q (List.mem_cons_of_mem _ hq)) hd hp with ⟨q, hq, h1, h2⟩ | h1
        · exact Or.inl ⟨q, List.mem_cons_of_mem _ hq, h1, h2⟩
        · exact Or.inr h1
def yswo (pc : Nat) (ps : List (Int × Int)) (d : Int) (cs : List (Int × Nat)) (td : Nat) : Bool := decide (ps.length = cs.length) && (ps.zip cs).all (fun q => decide (q.1.1 = q.2.1) && decide ((pc : Int) + q.1.2 = (q.2.2 : Int))) && decide ((pc : Int) + d = (td : Int))
theorem y_swo {pcn : Nat} {ps : List (Int × Int)} {d : Int} {cs : List (Int × Nat × yP)} {td : Nat} (h : yswo pcn ps d (cs.map fun q => (q.1, q.2.1)) td = true) : ps.length = cs.length ∧ (∀ q ∈ ps.zip cs, q.1.1 = q.2.1 ∧ (pcn : Int) + q.1.2 = (q.2.2.1 : Int)) ∧ (pcn : Int) + d = (td : Int) := by
  unfold yswo at h
  simp only [Bool.and_eq_true, decide_eq_true_eq, List.length_map] at h
  refine ⟨h.1.1, fun q hq => ?_, h.2⟩
  have := List.all_eq_true.mp h.1.2 (q.1, q.2.1, q.2.2.1) (by
    rw [List.zip_map_right]
    exact List.mem_map.mpr ⟨q, hq, rfl⟩)
  simp only [Bool.and_eq_true, decide_eq_true_eq] at this
  exact this
theorem yr_lsw (X : hCx D cl cy L p s m args c cc nL tys Ts own) {dflt : Int} {ps : Array (Int × Int)} {len td : Nat} {cs : List (Int × Nat × yP)} (hd : decode cc pc = .ok (.lookupswitch dflt ps, len)) (hso : (ps.toList.zip (ps.toList.drop 1)).all (fun (a, next) => a.1 < next.1) = true) (hc : yswo pc ps.toList dflt (cs.map fun q => (q.1, q.2.1)) td = true) (kd : yGo η kds D cl cy L Θ nL p l e R s m args below meth c Q (td) (P)) (kc : ∀ q ∈ cs, yGo η kds D cl cy L Θ nL p l e R s m args below meth c Q (q.2.1) (q.2.2)) : yGo η kds D cl cy L Θ nL p l e R s m args below meth c Q (pc) (ySw (cs.map fun q => (q.1, q.2.2)) P) := by
  intro loc st h H locs ls hp g
  unfold ySw at hp
  split at hp
  · rename_i a st'
    obtain ⟨h1, h2⟩ := hp
    obtain ⟨x, ex, hx⟩ := y_int (η := η) (g.2.2.1 a List.mem_cons_self) h1
    obtain ⟨c1, c2, c3⟩ := y_swo hc
    have g' := yg_st g (fun q hq => g.2.2.1 q (List.mem_cons_of_mem _ hq))
    rw [List.map_cons, ex]
    rcases y_swc c1 c2 c3 h2 with ⟨q, hq, e1, e2⟩ | ⟨e1, e2⟩
    · rw [← hx] at e1
      exact lv_lookup X.1 X.2.1 hd hso rfl e1 (kc q hq loc st' h H locs ls e2 g')
    · rw [← hx] at e1
      exact lv_lookup X.1 X.2.1 hd hso rfl e1 (kd loc st' h H locs ls e2 g')
  · exact hp.elim
/-- a table is a switch over the numbers from its least on -/
def ytps (lo : Int) : List Int → List (Int × Int)
  | [] => []
  | o :: r => (lo, o) :: ytps (lo + 1) r
theorem y_tps {d x : Int} : ∀ {offs : List Int} {lo : Int}, (x < lo ∨ lo + (offs.length : Int) ≤ x → Op.lookupswitch.offset (ytps lo offs) d x = d) ∧ (lo ≤ x → x < lo + (offs.length : Int) → offs[(x - lo).toNat]? = some (Op.lookupswitch.offset (ytps lo offs) d x)) := by
  intro offs
  induction offs with
  | nil =>
    intro lo
    refine ⟨fun _ => rfl, fun h1 h2 => ?_⟩
    simp only [List.length_nil] at h2
    omega
  | cons o r ih =>
    intro lo
    simp only [ytps, List.length_cons]
    rw [Op.lookupswitch.offset_cons]
    obtain ⟨i1, i2⟩ := ih (lo := lo + 1)
    constructor
    · intro h
      rw [if_neg (by omega)]
      exact i1 (by omega)
    · intro h1 h2
      by_cases hx : lo = x
      · rw [if_pos hx, show (x - lo).toNat = 0 by omega]
        rfl
      · rw [if_neg hx, show (x - lo).toNat = (x - (lo + 1)).toNat + 1 by omega, List.getElem?_cons_succ]
        exact i2 (by omega) (by omega)
theorem yr_tsw (X : hCx D cl cy L p s m args c cc nL tys Ts own) {dflt lo hi : Int} {offs : Array Int} {len td : Nat} {cs : List (Int × Nat × yP)} (hd : decode cc pc = .ok (.tableswitch dflt lo hi offs, len)) (hn : lo + (offs.toList.length : Int) = hi + 1) (hc : yswo pc (ytps lo offs.toList) dflt (cs.map fun q => (q.1, q.2.1)) td = true) (kd : yGo η kds D cl cy L Θ nL p l e R s m args below meth c Q (td) (P)) (kc : ∀ q ∈ cs, yGo η kds D cl cy L Θ nL p l e R s m args below meth c Q (q.2.1) (q.2.2)) : yGo η kds D cl cy L Θ nL p l e R s m args below meth c Q (pc) (ySw (cs.map fun q => (q.1, q.2.2)) P) := by
  intro loc st h H locs ls hp g
  unfold ySw at hp
  split at hp
  · rename_i a st'
    obtain ⟨h1, h2⟩ := hp
    obtain ⟨x, ex, hx⟩ := y_int (η := η) (g.2.2.1 a List.mem_cons_self) h1
    obtain ⟨c1, c2, c3⟩ := y_swo hc
    have g' := yg_st g (fun q hq => g.2.2.1 q (List.mem_cons_of_mem _ hq))
    obtain ⟨t1, t2⟩ := @y_tps dflt a.2 offs.toList lo
    rw [List.map_cons, ex]
    have fin : ∀ (tg : Nat) (PP : yP), (pc : Int) + Op.lookupswitch.offset (ytps lo offs.toList) dflt a.2 = (tg : Int) → PP loc st' h → yGo η kds D cl cy L Θ nL p l e R s m args below meth c Q (tg) (PP) → W p l e R s m args below meth c H locs 0 0 Q (F0 m pc ls (.int x :: st'.map (yvo η))) := by
      intro tg PP e1 e2 kk
      by_cases hr : a.2 < lo ∨ hi < a.2
      · rw [t1 (by omega)] at e1
        exact lv_tableOut X.1 X.2.1 hd (by rw [hx]; exact hr) e1 (kk loc st' h H locs ls e2 g')
      · have e3 := t2 (by omega) (by omega)
        rw [Array.getElem?_toList, ← hx] at e3
        exact lv_tableIn X.1 X.2.1 hd (by rw [hx]; omega) (by rw [hx]; omega) e3 (by rw [hx]; exact e1) (kk loc st' h H locs ls e2 g')
    rcases y_swc c1 c2 c3 h2 with ⟨q, hq, e1, e2⟩ | ⟨e1, e2⟩
    · exact fin _ _ e1 e2 (kc q hq)
    · exact fin _ _ e1 e2 kd
  · exact hp.elim
/-! arraycopy -/
theorem yr_cpy (Z : yCz η kds D cl cy L Θ nL p l e R s m args below meth c Q cc tys own TW KP tyf ret fr lo Qr) {idx k0 n0 k1 n1 : Nat} (hd : decode cc pc = .ok (.invokestatic idx, 3)) (hk : ycp kds k0 n0 k1 n1 = true) (h1 : Cond.methodLink own idx arraycopyName ∈ TW) (h2 : Cond.native arraycopyName ∈ TW) (h3 : Cond.static arraycopyName ∈ TW) (h4 : Cond.initialized "java/lang/System" ∈ TW) (h5 : 1 ≤ fr) (h6 : 26 ≤ lo) (k : yGo η kds D cl cy L Θ nL p l e R s m args below meth c Q (pc + 3) (P)) : yGo η kds D cl cy L Θ nL p l e R s m args below meth c Q (pc) (yCpy k0 n0 k1 n1 P) := by
  intro loc st h H locs ls hp g
  unfold yCpy at hp
  split at hp
  · rename_i n dp ds sp sr st'
    obtain ⟨⟨t1, t2, t3, t4, t5⟩, ⟨b1, b2, b3, b4, b5⟩, b6, b7⟩ := hp
    obtain ⟨⟨hexec, hb, hml, hts, hown, hKa, hTy, hnd⟩, -, -, hKP, -, ⟨hfr, hlo⟩, -⟩ := Z
    unfold ycp at hk
    split at hk
    · rename_i K0 K1 hK0 hK1
      simp only [Bool.and_eq_true, decide_eq_true_eq, Bool.or_eq_true] at hk
      obtain ⟨⟨⟨⟨⟨⟨⟨c8, c9⟩, c10⟩, c11⟩, c12⟩, c13⟩, c17⟩, c19⟩ := hk
      have gS := g.2.2.1
      have gH := g.2.2.2.1
      have gF := g.2.2.2.2
      obtain ⟨xn, en, hn⟩ := y_int (η := η) (gS n (by simp)) t1
      obtain ⟨xd, ed, hd'⟩ := y_int (η := η) (gS dp (by simp)) t2
      obtain ⟨xs, es, hs'⟩ := y_int (η := η) (gS sp (by simp)) t4
      obtain ⟨na1, Θ1, e1⟩ := y_ref (η := η) (gS ds (by simp)) t3
      obtain ⟨na0, Θ0, e0⟩ := y_ref (η := η) (gS sr (by simp)) t5
      obtain ⟨q1, hq1⟩ := zH_get gH Θ1 hK1 (by omega)
      obtain ⟨q0, hq0⟩ := zH_get gH Θ0 hK0 (by omega)
      have hD : va_D (fun x => x ∈ L) ([] ++ va_pl L (zF η kds cy Θ h)) := z_D hnd (fun a ha => ha)
      have hw1 := hq1
      have hw0 := hq0
      rw [zE_i c9] at hw1
      rw [zE_i c8, c10] at hw0
      have nn : ∀ z : Int32, 0 ≤ z.toInt → ¬ z < 0 ∧ z.toNatClampNeg = z.toInt.toNat := fun z hz => ⟨fun q => by
        have := Int32.lt_iff_toInt_lt.mp q
        have e0 : (0 : Int32).toInt = 0 := rfl
        omega, rfl⟩
      obtain ⟨n1', n2⟩ := nn xn (by omega)
      obtain ⟨d1, d2⟩ := nn xd (by omega)
      obtain ⟨s1, s2⟩ := nn xs (by omega)
      rw [hn] at n2
      rw [hd'] at d2
      rw [hs'] at s2
      have inb : ∀ j, j < K0.2.2.1 → (zty K0 0).2.1 ≤ h sr.2.toNat j ∧ h sr.2.toNat j ≤ (zty K0 0).2.2 ∧ zok Θ 0 (h sr.2.toNat j) := by
        intro j hj
        obtain ⟨b1, b2, b3⟩ := zH_in gH Θ0 hK0 hj
        have e2 := z_one c17 0 0
        have ety : zty K0 j = zty K0 0 := by
          have h9 := c17
          unfold zone at h9
          split at h9
          · rename_i t0 t1 g0 g1
            unfold zty
            rw [g0]
            simp [Nat.mod_one]
          · cases h9
        rw [ety] at b1 b2 b3
        rw [e2.1] at b1
        exact ⟨b2, b3, b1⟩
      have hty : ∃ ty : FieldType, (tys)[K1.2.1]? = some (cy K1.2.1, ty) ∧ refKind ty = false ∧ ∀ i, i < xn.toNatClampNeg → fits ty (.int (Int32.ofInt (h sr.2.toNat (xs.toNatClampNeg + i)))) = true := by
        rcases (show K1.2.1 = 0 ∨ K1.2.1 = 1 by omega) with e9 | e9
        · rw [e9]
          exact ⟨.int, hTy.1, rfl, fun _ _ => rfl⟩
        · rw [e9]
          refine ⟨.byte, hTy.2.1, rfl, fun i hi => ?_⟩
          have hb8 := z_ba (c19.resolve_left (by omega)) (by decide) (by decide) 0
          have e2 := z_one c17 0 0
          have := inb (xs.toNatClampNeg + i) (by rw [n2] at hi; rw [s2]; omega)
          exact z_fitb (by omega) (by omega)
      obtain ⟨ty, ht1, ht2, ht3⟩ := hty
      have c8' := y_cat8 (η := η) (st := st')
      simp only [List.map_cons]
      rw [en, ed, e1, es, e0]
      refine va_copyi hexec hb (hml.trans g.2.1.1.symm) hown (hts _ h1) (hts _ h2) (hts _ h3) (hts _ h4) hKa gH.1 hD gF q0 q1 K1.2.1 K1.2.1 hw0 hw1 ht1 ht1 ht2 s1 d1 n1' (by rw [s2, n2]; omega) (by rw [d2, n2]; omega) ht3 (by rw [hfr]; exact h5) ?_ hd (fun H1 locs1 hP1 _ hS1 => ?_)
      · have ew : nativeFrameWords "java/lang/System" "arraycopy" 5 = 7 := by decide +kernel
        rw [ew, hlo]
        omega
      · rw [s2, d2, n2] at hP1
        have gH1 : zH η kds D cl cy L Θ (zrow h ds.2.toNat (va_cpy (h sr.2.toNat) (h ds.2.toNat) sp.2.toNat dp.2.toNat n.2.toNat)) H1 := by
          refine zH_row gH hD Θ1 hK1 (by omega) (fun j hj => ?_) hq1 ?_
          · have e1 := z_one c17 0 j
            unfold va_cpy
            split
            · rename_i hj2
              have := inb (sp.2.toNat + (j - dp.2.toNat)) (by omega)
              rw [e1.2.1]
              exact ⟨this.2.2, by omega, by omega⟩
            · exact zH_in gH Θ1 hK1 hj
          · rw [zE_i c9]
            have ef : (fun j => Int32.ofInt (va_cpy (h sr.2.toNat) (h ds.2.toNat) sp.2.toNat dp.2.toNat n.2.toNat j)) = va_cpy (fun j => Int32.ofInt (h sr.2.toNat j)) (fun j => Int32.ofInt (h ds.2.toNat j)) sp.2.toNat dp.2.toNat n.2.toNat := by
              funext j
              unfold va_cpy
              split <;> rfl
            rw [ef]
            exact hP1
        exact k loc st' _ H1 locs1 ls b7 ⟨g.1, g.2.1, fun q hq => gS q (by simp [hq]), gH1, hS1⟩
    · cases hk
  · exact hp.elim
end YR2
/-! letters of words, exactly -/
theorem z_s2v : ∀ i : Fin 15, ∀ j : Fin 5, ((((zSb.getD i.val []).getD j.val 0) &&& 255).toUInt32 % 65536).toInt32.toInt = ((zSb.getD i.val []).getD j.val 0).toInt := by decide +kernel
theorem z_s2b : ∀ i : Fin 15, ∀ j : Fin 5, 0 ≤ ((zSb.getD i.val []).getD j.val 0).toInt ∧ ((zSb.getD i.val []).getD j.val 0).toInt ≤ 255 := by decide +kernel
set_option maxHeartbeats 4000000 in
set_option maxRecDepth 100000 in
theorem zS_char1v (l : Launch) (L : List Nat) (adK adV : Nat → Nat) (fv : Option Nat) {i : Nat} (hi : i < 15) {x : Int32} (h1 : 0 ≤ x.toInt) (h2 : x.toInt < (zSl.getD i 0 : Int)) : Met l yJ1_charAt_3b067 (Cond.code yJ1_charAt_3b067 cJ1_charAt_3b067 2 (some .char) :: zTW) ({ frames := 2, cells := 0, slots := 0, locals := 43 } : Room) (va_Pc ([.ref (adV i), .int x]) (zSP L adK adV fv)) (vp_Si (fun r => r.toInt = ((zSb.getD i []).getD x.toInt.toNat 0).toInt)) 0 0 (fun _ => False) := by
  refine Met.ofW (cc := cJ1_charAt_3b067) (maxL := 2) (ret := (some .char)) (by decide +kernel) rfl ?_
  intro p e s m args below meth c s₁ B hml hv
  obtain ⟨rfl, hSP⟩ := hv
  have hE := hSP.1
  have hx := B.exec
  have hb := B.bytes
  have hr := B.returns
  have hts0 := atoms_spec (ws := Cond.code yJ1_charAt_3b067 cJ1_charAt_3b067 2 (some .char) :: zTW) B.pre
  have hts : ∀ w ∈ zTW, w.before _ s = true := fun w hw => hts0 w (List.mem_cons_of_mem _ hw)
  have hown : s.vm.findClass RJ1 = some m.cls := findClass_of_methodNamed B.named
  have hlocks := B.notSynchronized
  have hS : va_S (fun q => q ∈ L) s.heap s.heap [] := va_S.rf
  have hl := lv_entry ([.ref (adV i), .int x]) (n := 2) (Nat.le_of_ble_eq_true rfl)
  rw [lg_entry_eq]
  generalize (lg_sl ([.ref (adV i), .int x]) ++ List.replicate (2 - (lg_sl ([.ref (adV i), .int x])).length) Slot.unset).toArray = ls at hl ⊢
  have hl : lv_has ls 2 [(0, .ref (adV i)), (1, .int x)] := hl
  have hlen := z_s3 ⟨i, hi⟩
  simp only at hlen
  have hv := z_vin (i := x) (n := zSl.getD i 0) h1 h2
  have hch := z_s2 ⟨i, hi⟩ ⟨x.toInt.toNat, by omega⟩
  simp only at hch
  have hcv := z_s2v ⟨i, hi⟩ ⟨x.toInt.toNat, by omega⟩
  simp only at hcv
  refine lv_iload_n hx hb zt_J1_charAt_3b067_0 rfl (lv_at hl 1 rfl) ?_
  refine lv_aload_n hx hb zt_J1_charAt_3b067_1 rfl (lv_at hl 0 rfl) ?_
  refine va_tlen (v := Int32.ofNat (zSl.getD i 0)) hx hb (hE.1 i hi).2.2.2 hS rfl zt_J1_charAt_3b067_2 ?_
  refine pc_v0 (va_runS (n := 2) (As := [.int x, .int (Int32.ofNat (zSl.getD i 0))]) (rest := []) (bytes := cJ0_checkIndex_df160) (maxL := 2) (ret := none) ⟨hx, hb, hml, hown, hts0⟩ (zS_check l L adK adV fv h1 (by rw [hlen.2.2]; exact h2)) ⟨callB_of _ hts0 (z_good zTW_good zw_J0_checkIndex_df160.1.2.1) rfl rfl rfl (hts _ zw_J0_checkIndex_df160.1.1) (hts _ zy_j9) ⟨zw_J0_checkIndex_df160.1.2.2.1.1, zw_J0_checkIndex_df160.1.2.2.1.2, zw_J0_checkIndex_df160.1.2.2.2⟩ ⟨by decide, by decide⟩, hts _ zw_J0_checkIndex_df160.2⟩ ⟨zSP.blind, fun U hU hW => ⟨rfl, hSP.go hS hU hW⟩⟩ rfl rfl hl.1 rfl (lv_room (Nat.le_of_ble_eq_true rfl)) zt_J1_charAt_3b067_3 ⟨Nat.zero_le _, Nat.zero_le _⟩) ?_
  refine lv_aload_n hx hb zt_J1_charAt_3b067_6 rfl (lv_at hl 0 rfl) ?_
  refine lv_iload_n hx hb zt_J1_charAt_3b067_7 rfl (lv_at hl 1 rfl) ?_
  refine va_tb (v := .int ((zSb.getD i []).getD x.toInt.toNat 0)) hx hb (hE.1 i hi).2.2.2 hS hv.1 (by rw [hv.2]) zt_J1_charAt_3b067_8 ?_
  refine lv_sipush (v := 255) hx hb zt_J1_charAt_3b067_9 (by decide +kernel) ?_
  refine lv_iand hx hb zt_J1_charAt_3b067_12 ?_
  refine lv_i2c hx hb zt_J1_charAt_3b067_13 rfl ?_
  exact W.zret hx hb hr hch.2 (fun t ht hW => ⟨_, rfl, hcv, ht⟩) (fun _ h => absurd h List.not_mem_nil) zt_J1_charAt_3b067_14
set_option maxHeartbeats 4000000 in
set_option maxRecDepth 100000 in
theorem zS_charAtv (l : Launch) (L : List Nat) (adK adV : Nat → Nat) (fv : Option Nat) {i : Nat} (hi : i < 15) {x : Int32} (h1 : 0 ≤ x.toInt) (h2 : x.toInt < (zSl.getD i 0 : Int)) : Met l yJ0_charAt_5068e (Cond.code yJ0_charAt_5068e cJ0_charAt_5068e 2 (some .char) :: zTW) ({ frames := 3, cells := 0, slots := 0, locals := 64 } : Room) (va_Pc ([.ref (adK i), .int x]) (zSP L adK adV fv)) (vp_Si (fun r => r.toInt = ((zSb.getD i []).getD x.toInt.toNat 0).toInt)) 0 0 (fun _ => False) := by
  refine Met.ofW (cc := cJ0_charAt_5068e) (maxL := 2) (ret := (some .char)) (by decide +kernel) rfl ?_
  intro p e s m args below meth c s₁ B hml hv
  obtain ⟨rfl, hSP⟩ := hv
  have hE := hSP.1
  have hx := B.exec
  have hb := B.bytes
  have hr := B.returns
  have hts0 := atoms_spec (ws := Cond.code yJ0_charAt_5068e cJ0_charAt_5068e 2 (some .char) :: zTW) B.pre
  have hts : ∀ w ∈ zTW, w.before _ s = true := fun w hw => hts0 w (List.mem_cons_of_mem _ hw)
  have hown : s.vm.findClass RJ0 = some m.cls := findClass_of_methodNamed B.named
  have hlocks := B.notSynchronized
  have hS : va_S (fun q => q ∈ L) s.heap s.heap [] := va_S.rf
  have hl := lv_entry ([.ref (adK i), .int x]) (n := 2) (Nat.le_of_ble_eq_true rfl)
  rw [lg_entry_eq]
  generalize (lg_sl ([.ref (adK i), .int x]) ++ List.replicate (2 - (lg_sl ([.ref (adK i), .int x])).length) Slot.unset).toArray = ls at hl ⊢
  have hl : lv_has ls 2 [(0, .ref (adK i)), (1, .int x)] := hl
  refine lv_aload_n hx hb zt_J0_charAt_5068e_0 rfl (lv_at hl 0 rfl) ?_
  refine pc_i (va_runV (C := RJ0) (n := 0) (As := []) (rest := []) (bytes := cJ0_isLatin1_aae02) (maxL := 1) (ret := (some .boolean)) ⟨hx, hb, hml, hown, hts0⟩ (zS_latin l L adK adV fv hi) ⟨callB_of _ hts0 (z_good zTW_good zw_J0_isLatin1_aae02.1.2.1) rfl rfl rfl (hts _ zw_J0_isLatin1_aae02.1.1) (hts _ zy_492) ⟨zw_J0_isLatin1_aae02.1.2.2.1.1, zw_J0_isLatin1_aae02.1.2.2.1.2, zw_J0_isLatin1_aae02.1.2.2.2⟩ ⟨by decide, by decide⟩, hts _ zw_J0_isLatin1_aae02.2.1, hts _ zw_J0_isLatin1_aae02.2.2⟩ ⟨zSP.blind, vk_recv hE hi hS, fun U hU hW => ⟨rfl, hSP.go hS hU hW⟩⟩ rfl rfl hl.1 rfl (lv_room (Nat.le_of_ble_eq_true rfl)) zt_J0_charAt_5068e_1 ⟨Nat.zero_le _, Nat.zero_le _⟩) (fun r hr0 => ?_)
  subst hr0
  refine lv_if_eq (tgt := 16) hx hb zt_J0_charAt_5068e_4 (by decide) (fun h => absurd h (by decide)) (fun _ => ?_)
  refine lv_aload_n hx hb zt_J0_charAt_5068e_7 rfl (lv_at hl 0 rfl) ?_
  refine vk_getf hx hb (hE.1 i hi).2.2.1 hS hown (hts _ zy_9) (fun _ h => h) zt_J0_charAt_5068e_8 ?_
  refine lv_iload_n hx hb zt_J0_charAt_5068e_11 rfl (lv_at hl 1 rfl) ?_
  refine pc_i (va_runS (n := 2) (As := [.ref (adV i), .int x]) (rest := []) (bytes := cJ1_charAt_3b067) (maxL := 2) (ret := (some .char)) ⟨hx, hb, hml, hown, hts0⟩ (zS_char1v l L adK adV fv hi h1 h2) ⟨callB_of _ hts0 (z_good zTW_good zw_J1_charAt_3b067.1.2.1) rfl rfl rfl (hts _ zw_J1_charAt_3b067.1.1) (hts _ zy_495) ⟨zw_J1_charAt_3b067.1.2.2.1.1, zw_J1_charAt_3b067.1.2.2.1.2, zw_J1_charAt_3b067.1.2.2.2⟩ ⟨by decide, by decide⟩, hts _ zw_J1_charAt_3b067.2⟩ ⟨zSP.blind, fun U hU hW => ⟨rfl, hSP.go hS hU hW⟩⟩ rfl rfl hl.1 rfl (lv_room (Nat.le_of_ble_eq_true rfl)) zt_J0_charAt_5068e_12 ⟨Nat.zero_le _, Nat.zero_le _⟩) (fun r hr0 => ?_)
  exact W.zret hx hb hr (z_nch (by rw [hr0]; exact (z_s2b ⟨i, hi⟩ ⟨x.toInt.toNat, by have := z_s3 ⟨i, hi⟩; simp only at this; omega⟩).1) (by rw [hr0]; exact (z_s2b ⟨i, hi⟩ ⟨x.toInt.toNat, by have := z_s3 ⟨i, hi⟩; simp only at this; omega⟩).2)) (fun t ht hW => ⟨_, rfl, hr0, ht⟩) (fun _ h => absurd h List.not_mem_nil) zt_J0_charAt_5068e_15
/-! what only the class has: the tables of the Reader, the words -/
section YR3
variable {kds : List zKD} {D : va_G} {cy : Nat → ClassId} {L : List Nat} {Θ : Nat → Option Nat} {nL : Nat}
variable {p : Program} {l : Launch} {e : Env} {R : Room} {s : State} {m : MethodId} {args : Array Value} {below : List Frame} {meth : Method} {c : Code} {Q : State → Prop}
variable {cc : ByteArray} {pc : Nat} {tys : List (ClassId × FieldType)} {P : yP}
variable {tyf : (Nat → ClassId) → List (ClassId × FieldType)} {ret : Option FieldType} {fr lo : Nat} {Qr : yQt}
theorem yr_tab (Z : yCz η kds D vwCl cy L Θ nL p l e R s m args below meth c Q cc tys RX4 zTW zKP tyf ret fr lo Qr) {len ti i : Nat} {d : Int} (hti : ti < 4) (hw : zTabW l cc pc len ti i d) (hr : (zTv ti).all (fun x => decide (-2147483648 ≤ x) && decide (x ≤ 2147483647)) = true) (k : yGo η kds D vwCl cy L Θ nL p l e R s m args below meth c Q (pc + len) (P)) : yGo η kds D vwCl cy L Θ nL p l e R s m args below meth c Q (pc) (yTab (zTv ti) i d P) := by
  intro loc st h H locs ls hp g
  unfold yTab at hp
  split at hp
  · rename_i a ha
    obtain ⟨h1, h2, h3⟩ := hp
    obtain ⟨⟨hexec, hb, hml, hts, hown, hKa, hTy, hnd⟩, -, ⟨-, tb, adK, adV, cK, fv, hst, -⟩, -⟩ := Z
    have hm := y_fm ha
    obtain ⟨x, ex, hx⟩ := y_int (η := η) (g.1 (i, a) hm) h1
    have hx2 : ls[i]? = some (.val (.int x)) := by
      have := g.2.1.2.2 (i, yvo η a) (List.mem_map.mpr ⟨(i, a), hm, rfl⟩)
      rw [← ex]
      exact this
    have hok : yok Θ (0, (zTv ti).getD (a.2 + d).toNat 0) := by
      rw [List.getD_eq_getElem?_getD]
      cases hj : (zTv ti)[(a.2 + d).toNat]? with
      | none => exact y_i (by decide) (by decide)
      | some y =>
        have := List.all_eq_true.mp hr y (List.mem_of_getElem? hj)
        simp only [Bool.and_eq_true, decide_eq_true_eq] at this
        exact y_i this.1 this.2
    refine hw p e R s m args below meth c Q H locs ls _ _ (tb ti) x hexec hb hown hts (hst ti hti).1 (hst ti hti).2 g.2.2.2.2 hx2 (by rw [hx]; exact h2.1) (by rw [hx]; exact h2.2) ?_
    have w := k loc ((0, (zTv ti).getD (a.2 + d).toNat 0) :: st) h H locs ls h3 (yg_st g (fun q hq => by
      rcases List.mem_cons.mp hq with rfl | hq
      · exact hok
      · exact g.2.2.1 q hq))
    rw [hx]
    exact w
  · exact hp.elim
theorem y_ds {k a : Nat} : yvo η (k + 100002, (a : Int)) = .ref (η.1 a) := z_dr (k + 100000) a
theorem yr_str (Z : yCz η kds D vwCl cy L Θ nL p l e R s m args below meth c Q cc tys RX4 zTW zKP tyf ret fr lo Qr) {idx i t : Nat} (hi : i < 15) (hx : zSi.getD i 0 = idx) (ht : t = zKs (zSl.getD i 0) + 100002) (hd : decode cc pc = .ok (.ldc idx, 2)) (k : yGo η kds D vwCl cy L Θ nL p l e R s m args below meth c Q (pc + 2) (P)) : yGo η kds D vwCl cy L Θ nL p l e R s m args below meth c Q (pc) (yCst t (((1000000 + i : Nat)) : Int) P) := by
  obtain ⟨⟨hexec, hb, hml, hts, hown, hKa, hTy, hnd⟩, -, ⟨-, tb, adK, adV, cK, fv, -, -, hR, -, -, hΘ, -⟩, -⟩ := Z
  subst hx
  subst ht
  obtain ⟨e1, e2, e3⟩ := hΘ i hi
  rw [e2] at e1 e3
  refine yr_cst (len := 2) ?_ (fun H locs ls rest w => ?_) k
  · unfold yok
    rw [if_neg (by simp only; omega)]
    refine ⟨by simp only; omega, ?_⟩
    simp only
    rw [Int.toNat_natCast, e1]
    exact congrArg some (by omega)
  · rw [y_ds, e3] at w
    exact va_ldcS hexec hb hown (hR i hi) hd w
theorem y_wi {x : Int} (h : 1000000 ≤ x ∧ x < 1000015) : ∃ i, i < 15 ∧ x = ((1000000 + i : Nat) : Int) ∧ (x - 1000000).toNat = i := ⟨(x - 1000000).toNat, by omega, by omega, rfl⟩
theorem yr_sln (Z : yCz η kds D vwCl cy L Θ nL p l e R s m args below meth c Q cc tys RX4 zTW zKP tyf ret fr lo Qr) {idx kk : Nat} (hd : decode cc pc = .ok (.invokevirtual idx, 3)) (hlk : Cond.methodLink RX4 idx yJ0_length_8abf5 ∈ zTW) (h5 : 2 ≤ fr) (h6 : 40 ≤ lo) (k : yGo η kds D vwCl cy L Θ nL p l e R s m args below meth c Q (pc + 3) (P)) : yGo η kds D vwCl cy L Θ nL p l e R s m args below meth c Q (pc) (ySln kk P) := by
  intro loc st h H locs ls hp g
  unfold ySln at hp
  split at hp
  · rename_i a st'
    obtain ⟨h1, h2, h3, h4⟩ := hp
    obtain ⟨i, hi, ei, en⟩ := y_wi h2
    rw [en] at h4
    obtain ⟨⟨hexec, hb, hml, hts, hown, hKa, hTy, hnd⟩, -, ⟨-, tb, adK, adV, cK, fv, -, hE, -, hC, hF, hΘ0, hΘ⟩, -, -, ⟨hfr, hlo⟩, -⟩ := Z
    obtain ⟨e1, e2, e3⟩ := hΘ0 i hi
    rw [e2] at e1 e3
    obtain ⟨a1, a2, a3⟩ := y_ref (η := η) (g.2.2.1 a List.mem_cons_self) h1
    rw [ei, Int.toNat_natCast, e3] at a3
    have gF := g.2.2.2.2
    have hSP : zSP L adK adV fv s := ⟨hE, hC, hF⟩
    have c8 := y_cat8 (η := η) (st := st')
    have hv := z_s3 ⟨i, hi⟩
    simp only at hv
    have w := yr_un g (t := 0) (v := ((zSl.getD i 0 : Nat) : Int)) (by rw [← hv.2.2]; exact y_i0 Θ _) h4 k
    rw [y_vi hv.2.2] at w
    rw [List.map_cons, a3]
    refine pc_i (va_runV (C := RJ0) (n := 0) (As := []) (rest := st'.map (yvo η)) (bytes := cJ0_length_8abf5) (maxL := 1) (ret := some .int) ⟨hexec, hb, hml, hown, hts⟩ (zS_length l L adK adV fv hi) ⟨callB_of _ hts (z_good0 zw_J0_length_8abf5.1.2.1) rfl rfl rfl (hts _ zw_J0_length_8abf5.1.1) (hts _ hlk) ⟨zw_J0_length_8abf5.1.2.2.1.1, zw_J0_length_8abf5.1.2.2.1.2, zw_J0_length_8abf5.1.2.2.2⟩ ⟨by rw [hfr]; exact h5, by rw [hlo]; exact h6⟩, hts _ zw_J0_length_8abf5.2.1, hts _ zw_J0_length_8abf5.2.2⟩ ⟨zSP.blind, vk_recv hE hi gF, fun U hU hW => ⟨rfl, hSP.go gF hU hW⟩⟩ rfl rfl g.2.1.1 rfl (by simpa using (show ((st'.map (yvo η)).map (fun v => v.category)).sum ≤ 8 by omega)) hd ⟨Nat.zero_le _, Nat.zero_le _⟩) (fun r hr0 => ?_)
    subst hr0
    exact w
  · exact hp.elim
theorem yr_sch (Z : yCz η kds D vwCl cy L Θ nL p l e R s m args below meth c Q cc tys RX4 zTW zKP tyf ret fr lo Qr) {idx kk : Nat} (hd : decode cc pc = .ok (.invokevirtual idx, 3)) (hlk : Cond.methodLink RX4 idx yJ0_charAt_5068e ∈ zTW) (h5 : 4 ≤ fr) (h6 : 85 ≤ lo) (k : yGo η kds D vwCl cy L Θ nL p l e R s m args below meth c Q (pc + 3) (P)) : yGo η kds D vwCl cy L Θ nL p l e R s m args below meth c Q (pc) (ySch kk P) := by
  intro loc st h H locs ls hp g
  unfold ySch at hp
  split at hp
  · rename_i b a st'
    obtain ⟨⟨h1, h1b⟩, h2, h2b, h3, h4⟩ := hp
    obtain ⟨i, hi, ei, en⟩ := y_wi h2
    rw [en] at h4 h2b
    obtain ⟨⟨hexec, hb, hml, hts, hown, hKa, hTy, hnd⟩, -, ⟨-, tb, adK, adV, cK, fv, -, hE, -, hC, hF, hΘ0, hΘ⟩, -, -, ⟨hfr, hlo⟩, -⟩ := Z
    obtain ⟨e1, e2, e3⟩ := hΘ0 i hi
    rw [e2] at e1 e3
    obtain ⟨a1, a2, a3⟩ := y_ref (η := η) (g.2.2.1 a (List.mem_cons_of_mem _ List.mem_cons_self)) h1
    rw [ei, Int.toNat_natCast, e3] at a3
    obtain ⟨x, ex, hx⟩ := y_int (η := η) (g.2.2.1 b List.mem_cons_self) h1b
    have gF := g.2.2.2.2
    have hSP : zSP L adK adV fv s := ⟨hE, hC, hF⟩
    have c8 := y_cat8 (η := η) (st := st')
    have w := yr_bin g (v := zch i b.2.toNat) (y_i0 Θ _) h4 k
    rw [List.map_cons, List.map_cons, ex, a3]
    refine pc_i (va_runV (C := RJ0) (n := 1) (As := [.int x]) (rest := st'.map (yvo η)) (bytes := cJ0_charAt_5068e) (maxL := 2) (ret := some .char) ⟨hexec, hb, hml, hown, hts⟩ (zS_charAtv l L adK adV fv hi (by omega) (by omega)) ⟨callB_of _ hts (z_good0 zw_J0_charAt_5068e.1.2.1) rfl rfl rfl (hts _ zw_J0_charAt_5068e.1.1) (hts _ hlk) ⟨zw_J0_charAt_5068e.1.2.2.1.1, zw_J0_charAt_5068e.1.2.2.1.2, zw_J0_charAt_5068e.1.2.2.2⟩ ⟨by rw [hfr]; exact h5, by rw [hlo]; exact h6⟩, hts _ zw_J0_charAt_5068e.2.1, hts _ zw_J0_charAt_5068e.2.2⟩ ⟨zSP.blind, vk_recv hE hi gF, fun U hU hW => ⟨rfl, hSP.go gF hU hW⟩⟩ rfl rfl g.2.1.1 rfl (by simpa using (show ((st'.map (yvo η)).map (fun v => v.category)).sum ≤ 8 by omega)) hd ⟨Nat.zero_le _, Nat.zero_le _⟩) (fun r hr0 => ?_)
    rw [y_vi (x := r) (by rw [hr0, hx]; rfl)] at w
    exact w
  · exact hp.elim
end YR3
end
