variable {η : zRn}
/-! further rows: quotients, Math, switches, the tables of the Reader, words, arraycopy -/
def yArg (op : Nat) (P : yP) : yP := fun loc st h => match st with
  | b :: a :: st' => (a.1 = 0 ∧ b.1 = 0) ∧ 1 ≤ b.2 ∧ P loc ((0, yari op a.2 b.2) :: st') h
  | _ => False
def yMax (P : yP) : yP := fun loc st h => match st with
  | b :: a :: st' => (a.1 = 0 ∧ b.1 = 0) ∧ st'.length ≤ 4 ∧ P loc ((0, max a.2 b.2) :: st') h
  | _ => False
def yMin (P : yP) : yP := fun loc st h => match st with
  | b :: a :: st' => (a.1 = 0 ∧ b.1 = 0) ∧ st'.length ≤ 4 ∧ P loc ((0, min a.2 b.2) :: st') h
  | _ => False
def yTab (tab : List Int) (i : Nat) (d : Int) (P : yP) : yP := fun loc st h => match yfind loc i with
  | some a => a.1 = 0 ∧ (0 ≤ a.2 + d ∧ a.2 + d < (tab.length : Int)) ∧ P loc ((0, tab.getD (a.2 + d).toNat 0) :: st) h
  | none => False
/-- a letter of a word -/
def zch (i j : Nat) : Int := ((zSb.getD i []).getD j 0).toInt
def ySln (kk : Nat) (P : yP) : yP := fun loc st h => match st with
  | a :: st' => a.1 = kk + 100002 ∧ (1000000 ≤ a.2 ∧ a.2 < 1000015) ∧ st'.length ≤ 4 ∧ P loc ((0, (zSl.getD ((a.2 - 1000000).toNat) 0 : Nat)) :: st') h
  | _ => False
def ySch (kk : Nat) (P : yP) : yP := fun loc st h => match st with
  | b :: a :: st' => (a.1 = kk + 100002 ∧ b.1 = 0) ∧ (1000000 ≤ a.2 ∧ a.2 < 1000015) ∧ (0 ≤ b.2 ∧ b.2 < ((zSl.getD ((a.2 - 1000000).toNat) 0 : Nat) : Int)) ∧ st'.length ≤ 4 ∧ P loc ((0, zch ((a.2 - 1000000).toNat) b.2.toNat) :: st') h
  | _ => False
def zcy (h : yH) (ds sr sp dp n : Nat) : yH := zrow h ds (va_cpy (h sr) (h ds) sp dp n)
def yCpy (k0 n0 k1 n1 : Nat) (P : yP) : yP := fun loc st h => match st with
  | n :: dp :: ds :: sp :: sr :: st' => (n.1 = 0 ∧ dp.1 = 0 ∧ ds.1 = k1 + 100002 ∧ sp.1 = 0 ∧ sr.1 = k0 + 100002) ∧ (0 ≤ n.2 ∧ 0 ≤ dp.2 ∧ 0 ≤ sp.2 ∧ sp.2 + n.2 ≤ (n0 : Int) ∧ dp.2 + n.2 ≤ (n1 : Int)) ∧ st'.length ≤ 4 ∧ P loc st' (zcy h ds.2.toNat sr.2.toNat sp.2.toNat dp.2.toNat n.2.toNat)
  | _ => False
/-- two arrays of numbers of one type, the one within the bounds of the other -/
def ycp (kds : List zKD) (k0 n0 k1 n1 : Nat) : Bool := match kds[k0]?, kds[k1]? with
  | some K0, some K1 => decide (K0.1 = 1) && decide (K1.1 = 1) && decide (K0.2.1 = K1.2.1) && decide (K1.2.1 ≤ 1) && decide (K0.2.2.1 = n0) && decide (K1.2.2.1 = n1) && zone K0 K1 && (decide (K1.2.1 = 0) || zba K1 (-128) 127)
  | _, _ => false
section YR2
variable {kds : List zKD} {D : va_G} {cl : List vw_C} {cy : Nat → ClassId} {L : List Nat} {Θ : Nat → Option Nat} {nL : Nat}
variable {p : Program} {l : Launch} {e : Env} {R : Room} {s : State} {m : MethodId} {args : Array Value} {below : List Frame} {meth : Method} {c : Code} {Q : State → Prop}
variable {cc : ByteArray} {pc : Nat} {tys : List (ClassId × FieldType)} {Ts : List Cond} {own : String} {P P1 P2 : yP}
variable {TW : List Cond} {KP : zKPt} {tyf : (Nat → ClassId) → List (ClassId × FieldType)} {ret : Option FieldType} {fr lo : Nat} {Qr : yQt}
theorem yr_arg {op : Nat} (hw : ∀ (x y : Int32) (H : Heap) (locs : List Loc) (ls : Array Slot) (rest : List Value), 1 ≤ y.toInt → W p l e R s m args below meth c H locs 0 0 Q (F0 m (pc + 1) ls (.int (zsem op x y) :: rest)) → W p l e R s m args below meth c H locs 0 0 Q (F0 m pc ls (.int y :: .int x :: rest))) (k : yGo η kds D cl cy L Θ nL p l e R s m args below meth c Q (pc + 1) (P)) : yGo η kds D cl cy L Θ nL p l e R s m args below meth c Q (pc) (yArg op P) := by
  intro loc st h H locs ls hp g
  unfold yArg at hp
  split at hp
  · rename_i b a st'
    obtain ⟨⟨h1, h2⟩, h3, h4⟩ := hp
    obtain ⟨x, ex, hx⟩ := y_int (η := η) (g.2.2.1 a (List.mem_cons_of_mem _ List.mem_cons_self)) h1
    obtain ⟨y, ey, hy⟩ := y_int (η := η) (g.2.2.1 b List.mem_cons_self) h2
    have es : (zsem op x y).toInt = yari op a.2 b.2 := by
      unfold yari
      rw [← hx, ← hy, z_ofi, z_ofi]
    have w := yr_bin g (y_i0 Θ (zsem op (Int32.ofInt a.2) (Int32.ofInt b.2))) h4 k
    rw [show (0, (zsem op (Int32.ofInt a.2) (Int32.ofInt b.2)).toInt) = ((0, yari op a.2 b.2) : yV) from rfl, y_vi es] at w
    rw [List.map_cons, List.map_cons, ex, ey]
    exact hw x y H locs ls _ (by rw [hy]; exact h3) w
  · exact hp.elim
theorem y_st2 {loc : yL} {i : Nat} {a : yV} {ls : Array Slot} (h : lv_has ls nL ((i, yvo η a) :: (loc.map fun q => (q.1, yvo η q.2)).filter (fun q => !(q.1 == i) && (!(q.1 == i + 1) && !(q.1 + 1 == i && q.2.category == 2))))) : lv_has ls nL ((yput (ydel loc (i + 1)) i a).map fun q => (q.1, yvo η q.2)) := by
  refine ⟨h.1, h.2.1, fun q hq => h.2.2 q ?_⟩
  unfold yput at hq
  rw [List.map_cons] at hq
  rcases List.mem_cons.mp hq with rfl | hq
  · exact List.mem_cons_self
  · obtain ⟨r, hr, rfl⟩ := List.mem_map.mp hq
    rw [y_del] at hr
    obtain ⟨hr1, hr2⟩ := List.mem_filter.mp hr
    rw [y_del] at hr1
    obtain ⟨hr3, hr4⟩ := List.mem_filter.mp hr1
    refine List.mem_cons_of_mem _ (List.mem_filter.mpr ⟨List.mem_map.mpr ⟨r, hr3, rfl⟩, ?_⟩)
    simp only
    rw [y_cat]
    simp only [Bool.and_eq_true] at hr2 hr4 ⊢
    exact ⟨hr2.1, hr4.1, hr2.2⟩
theorem yr_lst0 {i len : Nat} (hw : ∀ (x : Int64) (H : Heap) (locs : List Loc) (ls : Array Slot) (rest : List Value) (lv : List (Nat × Value)), lv_has ls nL lv → (∀ ls' : Array Slot, lv_has ls' nL ((i, .long x) :: lv.filter (fun q => !(q.1 == i) && (!(q.1 == i + 1) && !(q.1 + 1 == i && q.2.category == 2)))) → W p l e R s m args below meth c H locs 0 0 Q (F0 m (pc + len) ls' rest)) → W p l e R s m args below meth c H locs 0 0 Q (F0 m pc ls (.long x :: rest))) (k : yGo η kds D cl cy L Θ nL p l e R s m args below meth c Q (pc + len) (P)) : yGo η kds D cl cy L Θ nL p l e R s m args below meth c Q (pc) (ySt2 i P) := by
  intro loc st h H locs ls hp g
  unfold ySt2 at hp
  split at hp
  · rename_i a st'
    have ha := g.2.2.1 a List.mem_cons_self
    obtain ⟨x, ex, -⟩ := y_long (η := η) ha hp.1
    rw [List.map_cons, ex]
    refine hw x H locs ls _ _ g.2.1 (fun ls' hl' => ?_)
    rw [← ex] at hl'
    exact k _ st' h H locs ls' hp.2 ⟨fun q hq => by
      unfold yput at hq
      rcases List.mem_cons.mp hq with rfl | hq
      · exact ha
      · exact g.1 q (y_dsub q (y_dsub q hq)), y_st2 hl', fun b hb => g.2.2.1 b (List.mem_cons_of_mem _ hb), g.2.2.2.1, g.2.2.2.2⟩
  · exact hp.elim
theorem yr_lstore (X : hCx D cl cy L p s m args c cc nL tys Ts own) {i : Nat} (hi : i + 1 < nL) (hd : decode cc pc = .ok (.lstore i, 2)) (k : yGo η kds D cl cy L Θ nL p l e R s m args below meth c Q (pc + 2) (P)) : yGo η kds D cl cy L Θ nL p l e R s m args below meth c Q (pc) (ySt2 i P) := yr_lst0 (fun _ _ _ _ _ _ hl w => lv_lstore X.1 X.2.1 hd hl hi rfl w) k
theorem yr_div (X : hCx D cl cy L p s m args c cc nL tys Ts own) (hd : decode cc pc = .ok (.idiv, 1)) (k : yGo η kds D cl cy L Θ nL p l e R s m args below meth c Q (pc + 1) (P)) : yGo η kds D cl cy L Θ nL p l e R s m args below meth c Q (pc) (yArg 3 P) := yr_arg (fun _ _ _ _ _ _ hz w => lv_idiv X.1 X.2.1 hd (z_nz hz) w) k
theorem yr_rem (X : hCx D cl cy L p s m args c cc nL tys Ts own) (hd : decode cc pc = .ok (.irem, 1)) (k : yGo η kds D cl cy L Θ nL p l e R s m args below meth c Q (pc + 1) (P)) : yGo η kds D cl cy L Θ nL p l e R s m args below meth c Q (pc) (yArg 4 P) := yr_arg (fun _ _ _ _ _ _ hz w => lv_irem X.1 X.2.1 hd (z_nz hz) (by rw [z_rem hz]; exact w)) k
theorem yr_xor (X : hCx D cl cy L p s m args c cc nL tys Ts own) (hd : decode cc pc = .ok (.ixor, 1)) (k : yGo η kds D cl cy L Θ nL p l e R s m args below meth c Q (pc + 1) (P)) : yGo η kds D cl cy L Θ nL p l e R s m args below meth c Q (pc) (yAri 9 P) := yr_ari (fun _ _ _ _ _ _ w => lv_ixor X.1 X.2.1 hd w) k
theorem yr_max (Z : yCz η kds D cl cy L Θ nL p l e R s m args below meth c Q cc tys own TW KP tyf ret fr lo Qr) {idx : Nat} (hd : decode cc pc = .ok (.invokestatic idx, 3)) (h1 : Cond.methodLink own idx Lib.Math.max.name ∈ TW) (h2 : Cond.static Lib.Math.max.name ∈ TW) (h3 : Cond.initialized "java/lang/Math" ∈ TW) (h4 : Cond.code Lib.Math.max.name Lib.Math.max.code 2 (some .int) ∈ TW) (h5 : 1 ≤ fr) (h6 : 21 ≤ lo) (k : yGo η kds D cl cy L Θ nL p l e R s m args below meth c Q (pc + 3) (P)) : yGo η kds D cl cy L Θ nL p l e R s m args below meth c Q (pc) (yMax P) := by
  intro loc st h H locs ls hp g
  unfold yMax at hp
  split at hp
  · rename_i b a st'
    obtain ⟨⟨q1, q2⟩, q3, q4⟩ := hp
    obtain ⟨⟨hexec, hb, hml, hts, hown, hKa, hTy, hnd⟩, -, -, -, -, ⟨hfr, hlo⟩, -⟩ := Z
    obtain ⟨x, ex, hx⟩ := y_int (η := η) (g.2.2.1 a (List.mem_cons_of_mem _ List.mem_cons_self)) q1
    obtain ⟨y, ey, hy⟩ := y_int (η := η) (g.2.2.1 b List.mem_cons_self) q2
    have key : (if x < y then y else x).toInt = max a.2 b.2 := by
      rw [← hx, ← hy]
      by_cases hlt : x < y
      · have := Int32.lt_iff_toInt_lt.mp hlt
        rw [if_pos hlt]; omega
      · have : ¬ x.toInt < y.toInt := fun g => hlt (Int32.lt_iff_toInt_lt.mpr g)
        rw [if_neg hlt]; omega
    have c8 := y_cat8 (η := η) (st := st')
    have w := yr_bin g (by rw [← key]; exact y_i0 Θ _) q4 k
    rw [y_vi key] at w
    rw [List.map_cons, List.map_cons, ex, ey]
    exact va_mmax hexec hb (by rw [hml]; exact g.2.1.1.symm) hown (hts _ h1) (hts _ h2) (hts _ h3) (hts _ h4) (by omega) (by omega) (Nat.zero_le _) (Nat.zero_le _) hd w
  · exact hp.elim
theorem yr_min (Z : yCz η kds D cl cy L Θ nL p l e R s m args below meth c Q cc tys own TW KP tyf ret fr lo Qr) {idx : Nat} (hd : decode cc pc = .ok (.invokestatic idx, 3)) (h1 : Cond.methodLink own idx Lib.Math.min.name ∈ TW) (h2 : Cond.static Lib.Math.min.name ∈ TW) (h3 : Cond.initialized "java/lang/Math" ∈ TW) (h4 : Cond.code Lib.Math.min.name Lib.Math.min.code 2 (some .int) ∈ TW) (h5 : 1 ≤ fr) (h6 : 21 ≤ lo) (k : yGo η kds D cl cy L Θ nL p l e R s m args below meth c Q (pc + 3) (P)) : yGo η kds D cl cy L Θ nL p l e R s m args below meth c Q (pc) (yMin P) := by
  intro loc st h H locs ls hp g
  unfold yMin at hp
  split at hp
  · rename_i b a st'
    obtain ⟨⟨q1, q2⟩, q3, q4⟩ := hp
    obtain ⟨⟨hexec, hb, hml, hts, hown, hKa, hTy, hnd⟩, -, -, -, -, ⟨hfr, hlo⟩, -⟩ := Z
    obtain ⟨x, ex, hx⟩ := y_int (η := η) (g.2.2.1 a (List.mem_cons_of_mem _ List.mem_cons_self)) q1
    obtain ⟨y, ey, hy⟩ := y_int (η := η) (g.2.2.1 b List.mem_cons_self) q2
    have key : (if y < x then y else x).toInt = min a.2 b.2 := by
      rw [← hx, ← hy]
      by_cases hlt : y < x
      · have := Int32.lt_iff_toInt_lt.mp hlt
        rw [if_pos hlt]; omega
      · have : ¬ y.toInt < x.toInt := fun g => hlt (Int32.lt_iff_toInt_lt.mpr g)
        rw [if_neg hlt]; omega
    have c8 := y_cat8 (η := η) (st := st')
    have w := yr_bin g (by rw [← key]; exact y_i0 Θ _) q4 k
    rw [y_vi key] at w
    rw [List.map_cons, List.map_cons, ex, ey]
    exact va_mmin hexec hb (by rw [hml]; exact g.2.1.1.symm) hown (hts _ h1) (hts _ h2) (hts _ h3) (hts _ h4) (by omega) (by omega) (Nat.zero_le _) (Nat.zero_le _) hd w
  · exact hp.elim
/-! switches -/
/-- the cases of a switch, their places and walks: as the offsets say -/
theorem y_swc {x : Int} {Pd : yP} {pcI d : Int} {td : Nat} {loc : yL} {st : List yV} {h : yH} : ∀ {cs : List (Int × Nat × yP)} {ps : List (Int × Int)}, ps.length = cs.length → (∀ q ∈ ps.zip cs, q.1.1 = q.2.1 ∧ pcI + q.1.2 = (q.2.2.1 : Int)) → pcI + d = (td : Int) → ysw x Pd (cs.map fun q => (q.1, q.2.2)) loc st h → (∃ q ∈ cs, pcI + Op.lookupswitch.offset ps d x = (q.2.1 : Int) ∧ q.2.2 loc st h) ∨ (pcI + Op.lookupswitch.offset ps d x = (td : Int) ∧ Pd loc st h) := by
  intro cs
  induction cs with
  | nil =>
    intro ps hl _ hd hp
    cases ps with
    | nil => exact Or.inr ⟨hd, hp⟩
    | cons _ _ => simp at hl
  | cons c r ih =>
    intro ps hl hz hd hp
    cases ps with
    | nil => simp at hl
    | cons o os =>
      have h0 := hz (o, c) List.mem_cons_self
      simp only at h0
      obtain ⟨k, t, P⟩ := c
      obtain ⟨a, off⟩ := o
      simp only at h0
      simp only [List.map_cons, ysw] at hp
      rw [Op.lookupswitch.offset_cons]
      by_cases hx : x = k
      · rw [if_pos hx] at hp
        exact Or.inl ⟨(k, t, P), List.mem_cons_self, by rw [if_pos (by omega)]; exact h0.2, hp⟩
      · rw [if_neg hx] at hp
        rw [if_neg (by omega)]
        rcases ih (by simpa using hl) (fun q hq => hz q (List.mem_cons_of_mem _ hq)) hd hp with ⟨q, hq, h1, h2⟩ | h1
        · exact Or.inl ⟨q, List.mem_cons_of_mem _ hq, h1, h2⟩
        · exact Or.inr h1
def yswo (pc : Nat) (ps : List (Int × Int)) (d : Int) (cs : List (Int × Nat)) (td : Nat) : Bool := decide (ps.length = cs.length) && (ps.zip cs).all (fun q => decide (q.1.1 = q.2.1) && decide ((pc : Int) + q.1.2 = (q.2.2 : Int))) && decide ((pc : Int) + d = (td : Int))
theorem y_swo {pcn : Nat} {ps : List (Int × Int)} {d : Int} {cs : List (Int × Nat × yP)} {td : Nat} (h : yswo pcn ps d (cs.map fun q => (q.1, q.2.1)) td = true) : ps.length = cs.length ∧ (∀ q ∈ ps.zip cs, q.1.1 = q.2.1 ∧ (pcn : Int) + q.1.2 = (q.2.2.1 : Int)) ∧ (pcn : Int) + d = (td : Int) := by
  unfold yswo at h
  simp only [Bool.and_eq_true, decide_eq_true_eq, List.length_map] at h
  refine ⟨h.1.1, fun q hq => ?_, h.2⟩
  have := List.all_eq_true.mp h.1.2 (q.1, q.2.1, q.2.2.1) (by
    rw [List.zip_map_right]
    exact List.mem_map.mpr ⟨q, hq, rfl⟩)
  simp only [Bool.and_eq_true, decide_eq_true_eq] at this
  exact this
theorem yr_lsw (X : hCx D cl cy L p s m args c cc nL tys Ts own) {dflt : Int} {ps : Array (Int × Int)} {len td : Nat} {cs : List (Int × Nat × yP)} (hd : decode cc pc = .ok (.lookupswitch dflt ps, len)) (hso : (ps.toList.zip (ps.toList.drop 1)).all (fun (a, next) => a.1 < next.1) = true) (hc : yswo pc ps.toList dflt (cs.map fun q => (q.1, q.2.1)) td = true) (kd : yGo η kds D cl cy L Θ nL p l e R s m args below meth c Q (td) (P)) (kc : ∀ q ∈ cs, yGo η kds D cl cy L Θ nL p l e R s m args below meth c Q (q.2.1) (q.2.2)) : yGo η kds D cl cy L Θ nL p l e R s m args below meth c Q (pc) (ySw (cs.map fun q => (q.1, q.2.2)) P) := by
  intro loc st h H locs ls hp g
  unfold ySw at hp
  split at hp
  · rename_i a st'
    obtain ⟨h1, h2⟩ := hp
    obtain ⟨x, ex, hx⟩ := y_int (η := η) (g.2.2.1 a List.mem_cons_self) h1
    obtain ⟨c1, c2, c3⟩ := y_swo hc
    have g' := yg_st g (fun q hq => g.2.2.1 q (List.mem_cons_of_mem _ hq))
    rw [List.map_cons, ex]
    rcases y_swc c1 c2 c3 h2 with ⟨q, hq, e1, e2⟩ | ⟨e1, e2⟩
    · rw [← hx] at e1
      exact lv_lookup X.1 X.2.1 hd hso rfl e1 (kc q hq loc st' h H locs ls e2 g')
    · rw [← hx] at e1
      exact lv_lookup X.1 X.2.1 hd hso rfl e1 (kd loc st' h H locs ls e2 g')
  · exact hp.elim
/-- a table is a switch over the numbers from its least on -/
def ytps (lo : Int) : List Int → List (Int × Int)
  | [] => []
  | o :: r => (lo, o) :: ytps (lo + 1) r
theorem y_tps {d x : Int} : ∀ {offs : List Int} {lo : Int}, (x < lo ∨ lo + (offs.length : Int) ≤ x → Op.lookupswitch.offset (ytps lo offs) d x = d) ∧ (lo ≤ x → x < lo + (offs.length : Int) → offs[(x - lo).toNat]? = some (Op.lookupswitch.offset (ytps lo offs) d x)) := by
  intro offs
  induction offs with
  | nil =>
    intro lo
    refine ⟨fun _ => rfl, fun h1 h2 => ?_⟩
    simp only [List.length_nil] at h2
    omega
  | cons o r ih =>
    intro lo
    simp only [ytps, List.length_cons]
    rw [Op.lookupswitch.offset_cons]
    obtain ⟨i1, i2⟩ := ih (lo := lo + 1)
    constructor
    · intro h
      rw [if_neg (by omega)]
      exact i1 (by omega)
    · intro h1 h2
      by_cases hx : lo = x
      · rw [if_pos hx, show (x - lo).toNat = 0 by omega]
        rfl
      · rw [if_neg hx, show (x - lo).toNat = (x - (lo + 1)).toNat + 1 by omega, List.getElem?_cons_succ]
        exact i2 (by omega) (by omega)
theorem yr_tsw (X : hCx D cl cy L p s m args c cc nL tys Ts own) {dflt lo hi : Int} {offs : Array Int} {len td : Nat} {cs : List (Int × Nat × yP)} (hd : decode cc pc = .ok (.tableswitch dflt lo hi offs, len)) (hn : lo + (offs.toList.length : Int) = hi + 1) (hc : yswo pc (ytps lo offs.toList) dflt (cs.map fun q => (q.1, q.2.1)) td = true) (kd : yGo η kds D cl cy L Θ nL p l e R s m args below meth c Q (td) (P)) (kc : ∀ q ∈ cs, yGo η kds D cl cy L Θ nL p l e R s m args below meth c Q (q.2.1) (q.2.2)) : yGo η kds D cl cy L Θ nL p l e R s m args below meth c Q (pc) (ySw (cs.map fun q => (q.1, q.2.2)) P) := by
  intro loc st h H locs ls hp g
  unfold ySw at hp
  split at hp
  · rename_i a st'
    obtain ⟨h1, h2⟩ := hp
    obtain ⟨x, ex, hx⟩ := y_int (η := η) (g.2.2.1 a List.mem_cons_self) h1
    obtain ⟨c1, c2, c3⟩ := y_swo hc
    have g' := yg_st g (fun q hq => g.2.2.1 q (List.mem_cons_of_mem _ hq))
    obtain ⟨t1, t2⟩ := @y_tps dflt a.2 offs.toList lo
    rw [List.map_cons, ex]
    have fin : ∀ (tg : Nat) (PP : yP), (pc : Int) + Op.lookupswitch.offset (ytps lo offs.toList) dflt a.2 = (tg : Int) → PP loc st' h → yGo η kds D cl cy L Θ nL p l e R s m args below meth c Q (tg) (PP) → W p l e R s m args below meth c H locs 0 0 Q (F0 m pc ls (.int x :: st'.map (yvo η))) := by
      intro tg PP e1 e2 kk
      by_cases hr : a.2 < lo ∨ hi < a.2
      · rw [t1 (by omega)] at e1
        exact lv_tableOut X.1 X.2.1 hd (by rw [hx]; exact hr) e1 (kk loc st' h H locs ls e2 g')
      · have e3 := t2 (by omega) (by omega)
        rw [Array.getElem?_toList, ← hx] at e3
        exact lv_tableIn X.1 X.2.1 hd (by rw [hx]; omega) (by rw [hx]; omega) e3 (by rw [hx]; exact e1) (kk loc st' h H locs ls e2 g')
    rcases y_swc c1 c2 c3 h2 with ⟨q, hq, e1, e2⟩ | ⟨e1, e2⟩
    · exact fin _ _ e1 e2 (kc q hq)
    · exact fin _ _ e1 e2 kd
  · exact hp.elim
/-! arraycopy -/
theorem yr_cpy (Z : yCz η kds D cl cy L Θ nL p l e R s m args below meth c Q cc tys own TW KP tyf ret fr lo Qr) {idx k0 n0 k1 n1 : Nat} (hd : decode cc pc = .ok (.invokestatic idx, 3)) (hk : ycp kds k0 n0 k1 n1 = true) (h1 : Cond.methodLink own idx arraycopyName ∈ TW) (h2 : Cond.native arraycopyName ∈ TW) (h3 : Cond.static arraycopyName ∈ TW) (h4 : Cond.initialized "java/lang/System" ∈ TW) (h5 : 1 ≤ fr) (h6 : 26 ≤ lo) (k : yGo η kds D cl cy L Θ nL p l e R s m args below meth c Q (pc + 3) (P)) : yGo η kds D cl cy L Θ nL p l e R s m args below meth c Q (pc) (yCpy k0 n0 k1 n1 P) := by
  intro loc st h H locs ls hp g
  unfold yCpy at hp
  split at hp
  · rename_i n dp ds sp sr st'
    obtain ⟨⟨t1, t2, t3, t4, t5⟩, ⟨b1, b2, b3, b4, b5⟩, b6, b7⟩ := hp
    obtain ⟨⟨hexec, hb, hml, hts, hown, hKa, hTy, hnd⟩, -, -, hKP, -, ⟨hfr, hlo⟩, -⟩ := Z
    unfold ycp at hk
    split at hk
    · rename_i K0 K1 hK0 hK1
      simp only [Bool.and_eq_true, decide_eq_true_eq, Bool.or_eq_true] at hk
      obtain ⟨⟨⟨⟨⟨⟨⟨c8, c9⟩, c10⟩, c11⟩, c12⟩, c13⟩, c17⟩, c19⟩ := hk
      have gS := g.2.2.1
      have gH := g.2.2.2.1
      have gF := g.2.2.2.2
      obtain ⟨xn, en, hn⟩ := y_int (η := η) (gS n (by simp)) t1
      obtain ⟨xd, ed, hd'⟩ := y_int (η := η) (gS dp (by simp)) t2
      obtain ⟨xs, es, hs'⟩ := y_int (η := η) (gS sp (by simp)) t4
      obtain ⟨na1, Θ1, e1⟩ := y_ref (η := η) (gS ds (by simp)) t3
      obtain ⟨na0, Θ0, e0⟩ := y_ref (η := η) (gS sr (by simp)) t5
      obtain ⟨q1, hq1⟩ := zH_get gH Θ1 hK1 (by omega)
      obtain ⟨q0, hq0⟩ := zH_get gH Θ0 hK0 (by omega)
      have hD : va_D (fun x => x ∈ L) ([] ++ va_pl L (zF η kds cy Θ h)) := z_D hnd (fun a ha => ha)
      have hw1 := hq1
      have hw0 := hq0
      rw [zE_i c9] at hw1
      rw [zE_i c8, c10] at hw0
      have nn : ∀ z : Int32, 0 ≤ z.toInt → ¬ z < 0 ∧ z.toNatClampNeg = z.toInt.toNat := fun z hz => ⟨fun q => by
        have := Int32.lt_iff_toInt_lt.mp q
        have e0 : (0 : Int32).toInt = 0 := rfl
        omega, rfl⟩
      obtain ⟨n1', n2⟩ := nn xn (by omega)
      obtain ⟨d1, d2⟩ := nn xd (by omega)
      obtain ⟨s1, s2⟩ := nn xs (by omega)
      rw [hn] at n2
      rw [hd'] at d2
      rw [hs'] at s2
      have inb : ∀ j, j < K0.2.2.1 → (zty K0 0).2.1 ≤ h sr.2.toNat j ∧ h sr.2.toNat j ≤ (zty K0 0).2.2 ∧ zok Θ 0 (h sr.2.toNat j) := by
        intro j hj
        obtain ⟨b1, b2, b3⟩ := zH_in gH Θ0 hK0 hj
        have e2 := z_one c17 0 0
        have ety : zty K0 j = zty K0 0 := by
          have h9 := c17
          unfold zone at h9
          split at h9
          · rename_i t0 t1 g0 g1
            unfold zty
            rw [g0]
            simp [Nat.mod_one]
          · cases h9
        rw [ety] at b1 b2 b3
        rw [e2.1] at b1
        exact ⟨b2, b3, b1⟩
      have hty : ∃ ty : FieldType, (tys)[K1.2.1]? = some (cy K1.2.1, ty) ∧ refKind ty = false ∧ ∀ i, i < xn.toNatClampNeg → fits ty (.int (Int32.ofInt (h sr.2.toNat (xs.toNatClampNeg + i)))) = true := by
        rcases (show K1.2.1 = 0 ∨ K1.2.1 = 1 by omega) with e9 | e9
        · rw [e9]
          exact ⟨.int, hTy.1, rfl, fun _ _ => rfl⟩
        · rw [e9]
          refine ⟨.byte, hTy.2.1, rfl, fun i hi => ?_⟩
          have hb8 := z_ba (c19.resolve_left (by omega)) (by decide) (by decide) 0
          have e2 := z_one c17 0 0
          have := inb (xs.toNatClampNeg + i) (by rw [n2] at hi; rw [s2]; omega)
          exact z_fitb (by omega) (by omega)
      obtain ⟨ty, ht1, ht2, ht3⟩ := hty
      have c8' := y_cat8 (η := η) (st := st')
      simp only [List.map_cons]
      rw [en, ed, e1, es, e0]
      refine va_copyi hexec hb (hml.trans g.2.1.1.symm) hown (hts _ h1) (hts _ h2) (hts _ h3) (hts _ h4) hKa gH.1 hD gF q0 q1 K1.2.1 K1.2.1 hw0 hw1 ht1 ht1 ht2 s1 d1 n1' (by rw [s2, n2]; omega) (by rw [d2, n2]; omega) ht3 (by rw [hfr]; exact h5) ?_ hd (fun H1 locs1 hP1 _ hS1 => ?_)
      · have ew : nativeFrameWords "java/lang/System" "arraycopy" 5 = 7 := by decide +kernel
        rw [ew, hlo]
        omega
      · rw [s2, d2, n2] at hP1
        have gH1 : zH η kds D cl cy L Θ (zrow h ds.2.toNat (va_cpy (h sr.2.toNat) (h ds.2.toNat) sp.2.toNat dp.2.toNat n.2.toNat)) H1 := by
          refine zH_row gH hD Θ1 hK1 (by omega) (fun j hj => ?_) hq1 ?_
          · have e1 := z_one c17 0 j
            unfold va_cpy
            split
            · rename_i hj2
              have := inb (sp.2.toNat + (j - dp.2.toNat)) (by omega)
              rw [e1.2.1]
              exact ⟨this.2.2, by omega, by omega⟩
            · exact zH_in gH Θ1 hK1 hj
          · rw [zE_i c9]
            have ef : (fun j => Int32.ofInt (va_cpy (h sr.2.toNat) (h ds.2.toNat) sp.2.toNat dp.2.toNat n.2.toNat j)) = va_cpy (fun j => Int32.ofInt (h sr.2.toNat j)) (fun j => Int32.ofInt (h ds.2.toNat j)) sp.2.toNat dp.2.toNat n.2.toNat := by
              funext j
              unfold va_cpy
              split <;> rfl
            rw [ef]
            exact hP1
        exact k loc st' _ H1 locs1 ls b7 ⟨g.1, g.2.1, fun q hq => gS q (by simp [hq]), gH1, hS1⟩
    · cases hk
  · exact hp.elim
end YR2
/-! letters of words, exactly -/
theorem z_s2v : ∀ i : Fin 15, ∀ j : Fin 5, ((((zSb.getD i.val []).getD j.val 0) &&& 255).toUInt32 % 65536).toInt32.toInt = ((zSb.getD i.val []).getD j.val 0).toInt := by decide +kernel
theorem z_s2b : ∀ i : Fin 15, ∀ j : Fin 5, 0 ≤ ((zSb.getD i.val []).getD j.val 0).toInt ∧ ((zSb.getD i.val []).getD j.val 0).toInt ≤ 255 := by decide +kernel
set_option maxHeartbeats 4000000 in
set_option maxRecDepth 100000 in
theorem zS_char1v (l : Launch) (L : List Nat) (adK adV : Nat → Nat) (fv : Option Nat) {i : Nat} (hi : i < 15) {x : Int32} (h1 : 0 ≤ x.toInt) (h2 : x.toInt < (zSl.getD i 0 : Int)) : Met l yJ1_charAt_3b067 (Cond.code yJ1_charAt_3b067 cJ1_charAt_3b067 2 (some .char) :: zTW) ({ frames := 2, cells := 0, slots := 0, locals := 43 } : Room) (va_Pc ([.ref (adV i), .int x]) (zSP L adK adV fv)) (vp_Si (fun r => r.toInt = ((zSb.getD i []).getD x.toInt.toNat 0).toInt)) 0 0 (fun _ => False) := by
  refine Met.ofW (cc := cJ1_charAt_3b067) (maxL := 2) (ret := (some .char)) (by decide +kernel) rfl ?_
  intro p e s m args below meth c s₁ B hml hv
  obtain ⟨rfl, hSP⟩ := hv
  have hE := hSP.1
  have hx := B.exec
  have hb := B.bytes
  have hr := B.returns
  have hts0 := atoms_spec (ws := Cond.code yJ1_charAt_3b067 cJ1_charAt_3b067 2 (some .char) :: zTW) B.pre
  have hts : ∀ w ∈ zTW, w.before _ s = true := fun w hw => hts0 w (List.mem_cons_of_mem _ hw)
  have hown : s.vm.findClass RJ1 = some m.cls := findClass_of_methodNamed B.named
  have hlocks := B.notSynchronized
  have hS : va_S (fun q => q ∈ L) s.heap s.heap [] := va_S.rf
  have hl := lv_entry ([.ref (adV i), .int x]) (n := 2) (Nat.le_of_ble_eq_true rfl)
  rw [lg_entry_eq]
  generalize (lg_sl ([.ref (adV i), .int x]) ++ List.replicate (2 - (lg_sl ([.ref (adV i), .int x])).length) Slot.unset).toArray = ls at hl ⊢
  have hl : lv_has ls 2 [(0, .ref (adV i)), (1, .int x)] := hl
  have hlen := z_s3 ⟨i, hi⟩
  simp only at hlen
  have hv := z_vin (i := x) (n := zSl.getD i 0) h1 h2
  have hch := z_s2 ⟨i, hi⟩ ⟨x.toInt.toNat, by omega⟩
  simp only at hch
  have hcv := z_s2v ⟨i, hi⟩ ⟨x.toInt.toNat, by omega⟩
  simp only at hcv
  refine lv_iload_n hx hb zt_J1_charAt_3b067_0 rfl (lv_at hl 1 rfl) ?_
  refine lv_aload_n hx hb zt_J1_charAt_3b067_1 rfl (lv_at hl 0 rfl) ?_
  refine va_tlen (v := Int32.ofNat (zSl.getD i 0)) hx hb (hE.1 i hi).2.2.2 hS rfl zt_J1_charAt_3b067_2 ?_
  refine pc_v0 (va_runS (n := 2) (As := [.int x, .int (Int32.ofNat (zSl.getD i 0))]) (rest := []) (bytes := cJ0_checkIndex_df160) (maxL := 2) (ret := none) ⟨hx, hb, hml, hown, hts0⟩ (zS_check l L adK adV fv h1 (by rw [hlen.2.2]; exact h2)) ⟨callB_of _ hts0 (z_good zTW_good zw_J0_checkIndex_df160.1.2.1) rfl rfl rfl (hts _ zw_J0_checkIndex_df160.1.1) (hts _ zy_j9) ⟨zw_J0_checkIndex_df160.1.2.2.1.1, zw_J0_checkIndex_df160.1.2.2.1.2, zw_J0_checkIndex_df160.1.2.2.2⟩ ⟨by decide, by decide⟩, hts _ zw_J0_checkIndex_df160.2⟩ ⟨zSP.blind, fun U hU hW => ⟨rfl, hSP.go hS hU hW⟩⟩ rfl rfl hl.1 rfl (lv_room (Nat.le_of_ble_eq_true rfl)) zt_J1_charAt_3b067_3 ⟨Nat.zero_le _, Nat.zero_le _⟩) ?_
  refine lv_aload_n hx hb zt_J1_charAt_3b067_6 rfl (lv_at hl 0 rfl) ?_
  refine lv_iload_n hx hb zt_J1_charAt_3b067_7 rfl (lv_at hl 1 rfl) ?_
  refine va_tb (v := .int ((zSb.getD i []).getD x.toInt.toNat 0)) hx hb (hE.1 i hi).2.2.2 hS hv.1 (by rw [hv.2]) zt_J1_charAt_3b067_8 ?_
  refine lv_sipush (v := 255) hx hb zt_J1_charAt_3b067_9 (by decide +kernel) ?_
  refine lv_iand hx hb zt_J1_charAt_3b067_12 ?_
  refine lv_i2c hx hb zt_J1_charAt_3b067_13 rfl ?_
  exact W.zret hx hb hr hch.2 (fun t ht hW => ⟨_, rfl, hcv, ht⟩) (fun _ h => absurd h List.not_mem_nil) zt_J1_charAt_3b067_14
set_option maxHeartbeats 4000000 in
set_option maxRecDepth 100000 in
theorem zS_charAtv (l : Launch) (L : List Nat) (adK adV : Nat → Nat) (fv : Option Nat) {i : Nat} (hi : i < 15) {x : Int32} (h1 : 0 ≤ x.toInt) (h2 : x.toInt < (zSl.getD i 0 : Int)) : Met l yJ0_charAt_5068e (Cond.code yJ0_charAt_5068e cJ0_charAt_5068e 2 (some .char) :: zTW) ({ frames := 3, cells := 0, slots := 0, locals := 64 } : Room) (va_Pc ([.ref (adK i), .int x]) (zSP L adK adV fv)) (vp_Si (fun r => r.toInt = ((zSb.getD i []).getD x.toInt.toNat 0).toInt)) 0 0 (fun _ => False) := by
  refine Met.ofW (cc := cJ0_charAt_5068e) (maxL := 2) (ret := (some .char)) (by decide +kernel) rfl ?_
  intro p e s m args below meth c s₁ B hml hv
  obtain ⟨rfl, hSP⟩ := hv
  have hE := hSP.1
  have hx := B.exec
  have hb := B.bytes
  have hr := B.returns
  have hts0 := atoms_spec (ws := Cond.code yJ0_charAt_5068e cJ0_charAt_5068e 2 (some .char) :: zTW) B.pre
  have hts : ∀ w ∈ zTW, w.before _ s = true := fun w hw => hts0 w (List.mem_cons_of_mem _ hw)
  have hown : s.vm.findClass RJ0 = some m.cls := findClass_of_methodNamed B.named
  have hlocks := B.notSynchronized
  have hS : va_S (fun q => q ∈ L) s.heap s.heap [] := va_S.rf
  have hl := lv_entry ([.ref (adK i), .int x]) (n := 2) (Nat.le_of_ble_eq_true rfl)
  rw [lg_entry_eq]
  generalize (lg_sl ([.ref (adK i), .int x]) ++ List.replicate (2 - (lg_sl ([.ref (adK i), .int x])).length) Slot.unset).toArray = ls at hl ⊢
  have hl : lv_has ls 2 [(0, .ref (adK i)), (1, .int x)] := hl
  refine lv_aload_n hx hb zt_J0_charAt_5068e_0 rfl (lv_at hl 0 rfl) ?_
  refine pc_i (va_runV (C := RJ0) (n := 0) (As := []) (rest := []) (bytes := cJ0_isLatin1_aae02) (maxL := 1) (ret := (some .boolean)) ⟨hx, hb, hml, hown, hts0⟩ (zS_latin l L adK adV fv hi) ⟨callB_of _ hts0 (z_good zTW_good zw_J0_isLatin1_aae02.1.2.1) rfl rfl rfl (hts _ zw_J0_isLatin1_aae02.1.1) (hts _ zy_492) ⟨zw_J0_isLatin1_aae02.1.2.2.1.1, zw_J0_isLatin1_aae02.1.2.2.1.2, zw_J0_isLatin1_aae02.1.2.2.2⟩ ⟨by decide, by decide⟩, hts _ zw_J0_isLatin1_aae02.2.1, hts _ zw_J0_isLatin1_aae02.2.2⟩ ⟨zSP.blind, vk_recv hE hi hS, fun U hU hW => ⟨rfl, hSP.go hS hU hW⟩⟩ rfl rfl hl.1 rfl (lv_room (Nat.le_of_ble_eq_true rfl)) zt_J0_charAt_5068e_1 ⟨Nat.zero_le _, Nat.zero_le _⟩) (fun r hr0 => ?_)
  subst hr0
  refine lv_if_eq (tgt := 16) hx hb zt_J0_charAt_5068e_4 (by decide) (fun h => absurd h (by decide)) (fun _ => ?_)
  refine lv_aload_n hx hb zt_J0_charAt_5068e_7 rfl (lv_at hl 0 rfl) ?_
  refine vk_getf hx hb (hE.1 i hi).2.2.1 hS hown (hts _ zy_9) (fun _ h => h) zt_J0_charAt_5068e_8 ?_
  refine lv_iload_n hx hb zt_J0_charAt_5068e_11 rfl (lv_at hl 1 rfl) ?_
  refine pc_i (va_runS (n := 2) (As := [.ref (adV i), .int x]) (rest := []) (bytes := cJ1_charAt_3b067) (maxL := 2) (ret := (some .char)) ⟨hx, hb, hml, hown, hts0⟩ (zS_char1v l L adK adV fv hi h1 h2) ⟨callB_of _ hts0 (z_good zTW_good zw_J1_charAt_3b067.1.2.1) rfl rfl rfl (hts _ zw_J1_charAt_3b067.1.1) (hts _ zy_495) ⟨zw_J1_charAt_3b067.1.2.2.1.1, zw_J1_charAt_3b067.1.2.2.1.2, zw_J1_charAt_3b067.1.2.2.2⟩ ⟨by decide, by decide⟩, hts _ zw_J1_charAt_3b067.2⟩ ⟨zSP.blind, fun U hU hW => ⟨rfl, hSP.go hS hU hW⟩⟩ rfl rfl hl.1 rfl (lv_room (Nat.le_of_ble_eq_true rfl)) zt_J0_charAt_5068e_12 ⟨Nat.zero_le _, Nat.zero_le _⟩) (fun r hr0 => ?_)
  exact W.zret hx hb hr (z_nch (by rw [hr0]; exact (z_s2b ⟨i, hi⟩ ⟨x.toInt.toNat, by have := z_s3 ⟨i, hi⟩; simp only at this; omega⟩).1) (by rw [hr0]; exact (z_s2b ⟨i, hi⟩ ⟨x.toInt.toNat, by have := z_s3 ⟨i, hi⟩; simp only at this; omega⟩).2)) (fun t ht hW => ⟨_, rfl, hr0, ht⟩) (fun _ h => absurd h List.not_mem_nil) zt_J0_charAt_5068e_15
/-! what only the class has: the tables of the Reader, the words -/
section YR3
variable {kds : List zKD} {D : va_G} {cy : Nat → ClassId} {L : List Nat} {Θ : Nat → Option Nat} {nL : Nat}
variable {p : Program} {l : Launch} {e : Env} {R : Room} {s : State} {m : MethodId} {args : Array Value} {below : List Frame} {meth : Method} {c : Code} {Q : State → Prop}
variable {cc : ByteArray} {pc : Nat} {tys : List (ClassId × FieldType)} {P : yP}
variable {tyf : (Nat → ClassId) → List (ClassId × FieldType)} {ret : Option FieldType} {fr lo : Nat} {Qr : yQt}
theorem yr_tab (Z : yCz η kds D vwCl cy L Θ nL p l e R s m args below meth c Q cc tys RX4 zTW zKP tyf ret fr lo Qr) {len ti i : Nat} {d : Int} (hti : ti < 4) (hw : zTabW l cc pc len ti i d) (hr : (zTv ti).all (fun x => decide (-2147483648 ≤ x) && decide (x ≤ 2147483647)) = true) (k : yGo η kds D vwCl cy L Θ nL p l e R s m args below meth c Q (pc + len) (P)) : yGo η kds D vwCl cy L Θ nL p l e R s m args below meth c Q (pc) (yTab (zTv ti) i d P) := by
  intro loc st h H locs ls hp g
  unfold yTab at hp
  split at hp
  · rename_i a ha
    obtain ⟨h1, h2, h3⟩ := hp
    obtain ⟨⟨hexec, hb, hml, hts, hown, hKa, hTy, hnd⟩, -, ⟨-, tb, adK, adV, cK, fv, hst, -⟩, -⟩ := Z
    have hm := y_fm ha
    obtain ⟨x, ex, hx⟩ := y_int (η := η) (g.1 (i, a) hm) h1
    have hx2 : ls[i]? = some (.val (.int x)) := by
      have := g.2.1.2.2 (i, yvo η a) (List.mem_map.mpr ⟨(i, a), hm, rfl⟩)
      rw [← ex]
      exact this
    have hok : yok Θ (0, (zTv ti).getD (a.2 + d).toNat 0) := by
      rw [List.getD_eq_getElem?_getD]
      cases hj : (zTv ti)[(a.2 + d).toNat]? with
      | none => exact y_i (by decide) (by decide)
      | some y =>
        have := List.all_eq_true.mp hr y (List.mem_of_getElem? hj)
        simp only [Bool.and_eq_true, decide_eq_true_eq] at this
        exact y_i this.1 this.2
    refine hw p e R s m args below meth c Q H locs ls _ _ (tb ti) x hexec hb hown hts (hst ti hti).1 (hst ti hti).2 g.2.2.2.2 hx2 (by rw [hx]; exact h2.1) (by rw [hx]; exact h2.2) ?_
    have w := k loc ((0, (zTv ti).getD (a.2 + d).toNat 0) :: st) h H locs ls h3 (yg_st g (fun q hq => by
      rcases List.mem_cons.mp hq with rfl | hq
      · exact hok
      · exact g.2.2.1 q hq))
    rw [hx]
    exact w
  · exact hp.elim
theorem y_ds {k a : Nat} : yvo η (k + 100002, (a : Int)) = .ref (η.1 a) := z_dr (k + 100000) a
theorem yr_str (Z : yCz η kds D vwCl cy L Θ nL p l e R s m args below meth c Q cc tys RX4 zTW zKP tyf ret fr lo Qr) {idx i t : Nat} (hi : i < 15) (hx : zSi.getD i 0 = idx) (ht : t = zKs (zSl.getD i 0) + 100002) (hd : decode cc pc = .ok (.ldc idx, 2)) (k : yGo η kds D vwCl cy L Θ nL p l e R s m args below meth c Q (pc + 2) (P)) : yGo η kds D vwCl cy L Θ nL p l e R s m args below meth c Q (pc) (yCst t (((1000000 + i : Nat)) : Int) P) := by
  obtain ⟨⟨hexec, hb, hml, hts, hown, hKa, hTy, hnd⟩, -, ⟨-, tb, adK, adV, cK, fv, -, -, hR, -, -, hΘ, -⟩, -⟩ := Z
  subst hx
  subst ht
  obtain ⟨e1, e2, e3⟩ := hΘ i hi
  rw [e2] at e1 e3
  refine yr_cst (len := 2) ?_ (fun H locs ls rest w => ?_) k
  · unfold yok
    rw [if_neg (by simp only; omega)]
    refine ⟨by simp only; omega, ?_⟩
    simp only
    rw [Int.toNat_natCast, e1]
    exact congrArg some (by omega)
  · rw [y_ds, e3] at w
    exact va_ldcS hexec hb hown (hR i hi) hd w
theorem y_wi {x : Int} (h : 1000000 ≤ x ∧ x < 1000015) : ∃ i, i < 15 ∧ x = ((1000000 + i : Nat) : Int) ∧ (x - 1000000).toNat = i := ⟨(x - 1000000).toNat, by omega, by omega, rfl⟩
theorem yr_sln (Z : yCz η kds D vwCl cy L Θ nL p l e R s m args below meth c Q cc tys RX4 zTW zKP tyf ret fr lo Qr) {idx kk : Nat} (hd : decode cc pc = .ok (.invokevirtual idx, 3)) (hlk : Cond.methodLink RX4 idx yJ0_length_8abf5 ∈ zTW) (h5 : 2 ≤ fr) (h6 : 40 ≤ lo) (k : yGo η kds D vwCl cy L Θ nL p l e R s m args below meth c Q (pc + 3) (P)) : yGo η kds D vwCl cy L Θ nL p l e R s m args below meth c Q (pc) (ySln kk P) := by
  intro loc st h H locs ls hp g
  unfold ySln at hp
  split at hp
  · rename_i a st'
    obtain ⟨h1, h2, h3, h4⟩ := hp
    obtain ⟨i, hi, ei, en⟩ := y_wi h2
    rw [en] at h4
    obtain ⟨⟨hexec, hb, hml, hts, hown, hKa, hTy, hnd⟩, -, ⟨-, tb, adK, adV, cK, fv, -, hE, -, hC, hF, hΘ0, hΘ⟩, -, -, ⟨hfr, hlo⟩, -⟩ := Z
    obtain ⟨e1, e2, e3⟩ := hΘ0 i hi
    rw [e2] at e1 e3
    obtain ⟨a1, a2, a3⟩ := y_ref (η := η) (g.2.2.1 a List.mem_cons_self) h1
    rw [ei, Int.toNat_natCast, e3] at a3
    have gF := g.2.2.2.2
    have hSP : zSP L adK adV fv s := ⟨hE, hC, hF⟩
    have c8 := y_cat8 (η := η) (st := st')
    have hv := z_s3 ⟨i, hi⟩
    simp only at hv
    have w := yr_un g (t := 0) (v := ((zSl.getD i 0 : Nat) : Int)) (by rw [← hv.2.2]; exact y_i0 Θ _) h4 k
    rw [y_vi hv.2.2] at w
    rw [List.map_cons, a3]
    refine pc_i (va_runV (C := RJ0) (n := 0) (As := []) (rest := st'.map (yvo η)) (bytes := cJ0_length_8abf5) (maxL := 1) (ret := some .int) ⟨hexec, hb, hml, hown, hts⟩ (zS_length l L adK adV fv hi) ⟨callB_of _ hts (z_good0 zw_J0_length_8abf5.1.2.1) rfl rfl rfl (hts _ zw_J0_length_8abf5.1.1) (hts _ hlk) ⟨zw_J0_length_8abf5.1.2.2.1.1, zw_J0_length_8abf5.1.2.2.1.2, zw_J0_length_8abf5.1.2.2.2⟩ ⟨by rw [hfr]; exact h5, by rw [hlo]; exact h6⟩, hts _ zw_J0_length_8abf5.2.1, hts _ zw_J0_length_8abf5.2.2⟩ ⟨zSP.blind, vk_recv hE hi gF, fun U hU hW => ⟨rfl, hSP.go gF hU hW⟩⟩ rfl rfl g.2.1.1 rfl (by simpa using (show ((st'.map (yvo η)).map (fun v => v.category)).sum ≤ 8 by omega)) hd ⟨Nat.zero_le _, Nat.zero_le _⟩) (fun r hr0 => ?_)
    subst hr0
    exact w
  · exact hp.elim
theorem yr_sch (Z : yCz η kds D vwCl cy L Θ nL p l e R s m args below meth c Q cc tys RX4 zTW zKP tyf ret fr lo Qr) {idx kk : Nat} (hd : decode cc pc = .ok (.invokevirtual idx, 3)) (hlk : Cond.methodLink RX4 idx yJ0_charAt_5068e ∈ zTW) (h5 : 4 ≤ fr) (h6 : 85 ≤ lo) (k : yGo η kds D vwCl cy L Θ nL p l e R s m args below meth c Q (pc + 3) (P)) : yGo η kds D vwCl cy L Θ nL p l e R s m args below meth c Q (pc) (ySch kk P) := by
  intro loc st h H locs ls hp g
  unfold ySch at hp
  split at hp
  · rename_i b a st'
    obtain ⟨⟨h1, h1b⟩, h2, h2b, h3, h4⟩ := hp
    obtain ⟨i, hi, ei, en⟩ := y_wi h2
    rw [en] at h4 h2b
    obtain ⟨⟨hexec, hb, hml, hts, hown, hKa, hTy, hnd⟩, -, ⟨-, tb, adK, adV, cK, fv, -, hE, -, hC, hF, hΘ0, hΘ⟩, -, -, ⟨hfr, hlo⟩, -⟩ := Z
    obtain ⟨e1, e2, e3⟩ := hΘ0 i hi
    rw [e2] at e1 e3
    obtain ⟨a1, a2, a3⟩ := y_ref (η := η) (g.2.2.1 a (List.mem_cons_of_mem _ List.mem_cons_self)) h1
    rw [ei, Int.toNat_natCast, e3] at a3
    obtain ⟨x, ex, hx⟩ := y_int (η := η) (g.2.2.1 b List.mem_cons_self) h1b
    have gF := g.2.2.2.2
    have hSP : zSP L adK adV fv s := ⟨hE, hC, hF⟩
    have c8 := y_cat8 (η := η) (st := st')
    have w := yr_bin g (v := zch i b.2.toNat) (y_i0 Θ _) h4 k
    rw [List.map_cons, List.map_cons, ex, a3]
    refine pc_i (va_runV (C := RJ0) (n := 1) (As := [.int x]) (rest := st'.map (yvo η)) (bytes := cJ0_charAt_5068e) (maxL := 2) (ret := some .char) ⟨hexec, hb, hml, hown, hts⟩ (zS_charAtv l L adK adV fv hi (by omega) (by omega)) ⟨callB_of _ hts (z_good0 zw_J0_charAt_5068e.1.2.1) rfl rfl rfl (hts _ zw_J0_charAt_5068e.1.1) (hts _ hlk) ⟨zw_J0_charAt_5068e.1.2.2.1.1, zw_J0_charAt_5068e.1.2.2.1.2, zw_J0_charAt_5068e.1.2.2.2⟩ ⟨by rw [hfr]; exact h5, by rw [hlo]; exact h6⟩, hts _ zw_J0_charAt_5068e.2.1, hts _ zw_J0_charAt_5068e.2.2⟩ ⟨zSP.blind, vk_recv hE hi gF, fun U hU hW => ⟨rfl, hSP.go gF hU hW⟩⟩ rfl rfl g.2.1.1 rfl (by simpa using (show ((st'.map (yvo η)).map (fun v => v.category)).sum ≤ 8 by omega)) hd ⟨Nat.zero_le _, Nat.zero_le _⟩) (fun r hr0 => ?_)
    rw [y_vi (x := r) (by rw [hr0, hx]; rfl)] at w
    exact w
  · exact hp.elim
end YR3
