section
/-! The checker: abstract states. A number is a symbol and an offset; a symbol has bounds; a reference is a number too (-1: null); a cell of the heap has a kind. -/
abbrev zAV : Type := Nat × Nat × Int
abbrev zIV : Type := Int × Int
abbrev zOV : Type := (Nat × Nat) × Nat × zAV
abbrev zAS : Type := List zIV × List (Nat × zAV) × List zAV × List zOV × List (Nat × Nat × Int)
abbrev zKD : Type := Nat × Nat × Nat × List (Nat × Int × Int)
/-- names of cells: from a name to its address and back -/
abbrev zRn : Type := (Nat → Nat) × (Nat → Nat)
def zrf (η : zRn) (x : Int) : Option Nat := if x < 0 then none else some (η.1 x.toNat)
def zdec (η : zRn) (t : Nat) (x : Int) : Value := match t with
  | 0 => .int (Int32.ofInt x)
  | 1 => .long (Int64.ofInt x)
  | _ + 2 => va_rf (zrf η x)
def zok (Θ : Nat → Option Nat) (t : Nat) (x : Int) : Prop := match t with
  | 0 => -2147483648 ≤ x ∧ x ≤ 2147483647
  | 1 => -9223372036854775808 ≤ x ∧ x ≤ 9223372036854775807
  | k + 2 => x = -1 ∨ (0 ≤ x ∧ Θ x.toNat = some k)
/-- the type of a kind's slot: tag, least, most -/
def zty (K : zKD) (j : Nat) : Nat × Int × Int := K.2.2.2.getD (j % K.2.2.2.length) (0, 0, -1)
def zE (η : zRn) (cy : Nat → ClassId) (K : zKD) (g : Nat → Int) : va_E := match K.1 with
  | 0 => .inr (K.2.1, (List.range K.2.2.1).map (fun j => zdec η (zty K j).1 (g j)))
  | 1 => .inl (cy K.2.1, K.2.2.1, .inl (fun j => Int32.ofInt (g j)))
  | _ => .inl (cy K.2.1, K.2.2.1, .inr (.inr (.inr (.inr (fun j => zrf η (g j))))))
/-- the heap holds the cells of Θ, with the contents h -/
def zf (η : zRn) (kds : List zKD) (cy : Nat → ClassId) (Θ : Nat → Option Nat) (h : Nat → Nat → Int) (a : Nat) : va_E := zE η cy (kds.getD ((Θ a).getD 0) (0, 0, 0, [])) (h a)
/-- the cell at an address -/
def zF (η : zRn) (kds : List zKD) (cy : Nat → ClassId) (Θ : Nat → Option Nat) (h : Nat → Nat → Int) (q : Nat) : va_E := zf η kds cy Θ h (η.2 q)
def zH (η : zRn) (kds : List zKD) (D : va_G) (cl : List vw_C) (cy : Nat → ClassId) (L : List Nat) (Θ : Nat → Option Nat) (h : Nat → Nat → Int) (H : Heap) : Prop :=
  va_P D cl ([] ++ va_pl L (zF η kds cy Θ h)) H ∧ (∀ q ∈ L, η.1 (η.2 q) = q) ∧ ∀ a k, Θ a = some k → ∃ K, kds[k]? = some K ∧ (K.1 ≤ 2 → η.1 a ∈ L ∧ η.2 (η.1 a) = a) ∧ ∀ j, j < K.2.2.1 → zok Θ (zty K j).1 (h a j) ∧ (zty K j).2.1 ≤ h a j ∧ h a j ≤ (zty K j).2.2
/-- slots from a place to a place of a kind are among those that may change -/
def zinE (eff : List (Nat × Nat × Nat)) (k lo hi : Nat) : Bool := eff.any (fun e => decide (e.1 = k) && decide (e.2.1 ≤ lo) && decide (hi ≤ e.2.2))
variable {η : zRn}
/-! lists -/
/-! numbers -/
theorem z_toi {x : Int} (h1 : -2147483648 ≤ x) (h2 : x ≤ 2147483647) : (Int32.ofInt x).toInt = x := by
  rw [Int32.toInt_ofInt]
  exact Int.bmod_eq_of_le (by simp only [Int32.size]; omega) (by simp only [Int32.size]; omega)
theorem z_ofi (x : Int32) : Int32.ofInt x.toInt = x := by
  simp
theorem z_lo (x : Int32) : -2147483648 ≤ x.toInt := Int32.le_toInt x
theorem z_hi (x : Int32) : x.toInt ≤ 2147483647 := by
  have := Int32.toInt_lt x
  omega
theorem z_lo64 (x : Int64) : -9223372036854775808 ≤ x.toInt := Int64.le_toInt x
theorem z_hi64 (x : Int64) : x.toInt ≤ 9223372036854775807 := by
  have := Int64.toInt_lt x
  omega
theorem z_ofi64 (x : Int64) : Int64.ofInt x.toInt = x := by
  simp
end
section
/-! what the operations do to bounds -/
theorem z_add {x y : Int32} (h1 : -2147483648 ≤ x.toInt + y.toInt) (h2 : x.toInt + y.toInt ≤ 2147483647) : (x + y).toInt = x.toInt + y.toInt := by
  rw [Int32.toInt_add]
  exact Int.bmod_eq_of_le (by omega) (by omega)
theorem z_sub {x y : Int32} (h1 : -2147483648 ≤ x.toInt - y.toInt) (h2 : x.toInt - y.toInt ≤ 2147483647) : (x - y).toInt = x.toInt - y.toInt := by
  rw [Int32.toInt_sub]
  exact Int.bmod_eq_of_le (by omega) (by omega)
theorem z_mul {x y : Int32} (h1 : -2147483648 ≤ x.toInt * y.toInt) (h2 : x.toInt * y.toInt ≤ 2147483647) : (x * y).toInt = x.toInt * y.toInt := by
  rw [Int32.toInt_mul]
  exact Int.bmod_eq_of_le (by omega) (by omega)
theorem z_div {x y : Int32} (hy : 1 ≤ y.toInt) : (x / y).toInt = x.toInt.tdiv y.toInt := by
  rw [Int32.toInt_div]
  have h1 := z_lo x
  have h2 := z_hi x
  have e : x.toInt.tdiv y.toInt ≤ max 0 x.toInt ∧ min 0 x.toInt ≤ x.toInt.tdiv y.toInt := by
    rcases Int.le_total 0 x.toInt with hx | hx
    · have a1 := Int.tdiv_nonneg hx (show (0 : Int) ≤ y.toInt by omega)
      have a2 := Int.tdiv_le_self y.toInt hx
      omega
    · have hn : 0 ≤ -x.toInt := by omega
      have a1 := Int.tdiv_nonneg hn (show (0 : Int) ≤ y.toInt by omega)
      have a2 := Int.tdiv_le_self y.toInt hn
      rw [Int.neg_tdiv] at a1 a2
      omega
  exact Int.bmod_eq_of_le (by omega) (by omega)
theorem z_nn {x : Int32} (h : 0 ≤ x.toInt) : x.toInt = (x.toBitVec.toNat : Int) := by
  have e : x.toInt = x.toBitVec.toInt := rfl
  rw [BitVec.toInt_eq_toNat_cond] at e
  have hx : x.toBitVec.toNat < 2 ^ 32 := x.toBitVec.isLt
  split at e <;> omega
theorem z_nb {x : Int32} (h : x.toBitVec.toNat < 2147483648) : x.toInt = (x.toBitVec.toNat : Int) := by
  have e : x.toInt = x.toBitVec.toInt := rfl
  rw [BitVec.toInt_eq_toNat_cond] at e
  split at e <;> omega
theorem z_and {x y : Int32} (h : 0 ≤ y.toInt) : 0 ≤ (x &&& y).toInt ∧ (x &&& y).toInt ≤ y.toInt := by
  have hy := z_nn h
  have h2 := z_hi y
  have e : (x &&& y).toBitVec.toNat ≤ y.toBitVec.toNat := by
    rw [Int32.toBitVec_and, BitVec.toNat_and]
    exact Nat.and_le_right
  have := z_nb (x := x &&& y) (by omega)
  omega
end
section
/-! operations of two numbers, and what a comparison tells -/
def zsem (op : Nat) (x y : Int32) : Int32 := match op with
  | 0 => x + y
  | 1 => x - y
  | 2 => x * y
  | 3 => x / y
  | 4 => x % y
  | 5 => x <<< (y &&& 31)
  | 6 => x >>> (y &&& 31)
  | 7 => x &&& y
  | 8 => x ||| y
  | _ => x ^^^ y
/-- comparisons: 0 <, 1 ≥, 2 >, 3 ≤, 4 =, 5 ≠ -/
def zcmp (cd : Nat) (x y : Int) : Prop := match cd with
  | 0 => x < y
  | 1 => y ≤ x
  | 2 => y < x
  | 3 => x ≤ y
  | 4 => x = y
  | _ => x ≠ y
end
section
variable {η : zRn}
/-! from every state of which an abstract state says the truth, the machine comes to the end -/
section ZGO
variable {kds : List zKD} {D : va_G} {cl : List vw_C} {cy : Nat → ClassId} {L : List Nat} {Θ : Nat → Option Nat} {h0 : Nat → Nat → Int} {eff : List (Nat × Nat × Nat)} {A : Nat → Prop} {H0 : Heap} {nL : Nat}
variable {p : Program} {l : Launch} {e : Env} {R : Room} {s : State} {m : MethodId} {args : Array Value} {below : List Frame} {meth : Method} {c : Code} {Q : State → Prop}
theorem z_cat (t : Nat) (x : Int) : ((zdec η t x).category == 2) = (t == 1) := by
  match t with
  | 0 => rfl
  | 1 => rfl
  | t + 2 =>
    have : (zdec η (t + 2) x).category = 1 := by
      show (va_rf (zrf η x)).category = 1
      cases zrf η x <;> rfl
    rw [this]
    simp
theorem z_cat1 {t : Nat} (x : Int) (h : t ≠ 1) : (zdec η t x).category = 1 := by
  match t, h with
  | 0, _ => rfl
  | 1, h => exact absurd rfl h
  | t + 2, _ =>
    show (va_rf (zrf η x)).category = 1
    cases zrf η x <;> rfl
end ZGO
end
section
variable {η : zRn}
/-! instructions that leave the heap alone -/
section ZIN
variable {kds : List zKD} {D : va_G} {cl : List vw_C} {cy : Nat → ClassId} {L : List Nat} {Θ : Nat → Option Nat} {h0 : Nat → Nat → Int} {eff : List (Nat × Nat × Nat)} {A : Nat → Prop} {H0 : Heap} {nL : Nat}
variable {p : Program} {l : Launch} {e : Env} {R : Room} {s : State} {m : MethodId} {args : Array Value} {below : List Frame} {meth : Method} {c : Code} {Q : State → Prop}
variable {cc : ByteArray} {σA : List Int} {pc : Nat} {as : zAS}
theorem z_i8 : ∀ k : Fin 256, (Int8.ofInt ((k.val : Int) - 128)).toInt32 = Int32.ofInt ((k.val : Int) - 128) := by decide +kernel
theorem z_b8 {n : Int} (h1 : -128 ≤ n) (h2 : n ≤ 127) : (Int8.ofInt n).toInt32 = Int32.ofInt n := by
  have := z_i8 ⟨(n + 128).toNat, by omega⟩
  simp only at this
  rw [show ((n + 128).toNat : Int) - 128 = n by omega] at this
  exact this
theorem z_b16 {n : Int} (h1 : -32768 ≤ n) (h2 : n ≤ 32767) : (Int16.ofInt n).toInt32 = Int32.ofInt n := by
  apply Int32.toInt_inj.mp
  rw [Int16.toInt_toInt32, Int16.toInt_ofInt, z_toi (by omega) (by omega)]
  exact Int.bmod_eq_of_le (by simp only [Int16.size]; omega) (by simp only [Int16.size]; omega)
end ZIN
end
section
variable {η : zRn}
/-! comparisons -/
def zcn (cd : Jvm.ClassFile.Cond) : Nat := match cd with
  | .lt => 0
  | .ge => 1
  | .gt => 2
  | .le => 3
  | .eq => 4
  | .ne => 5
section ZBR
variable {kds : List zKD} {D : va_G} {cl : List vw_C} {cy : Nat → ClassId} {L : List Nat} {Θ : Nat → Option Nat} {h0 : Nat → Nat → Int} {eff : List (Nat × Nat × Nat)} {A : Nat → Prop} {H0 : Heap} {nL : Nat}
variable {p : Program} {l : Launch} {e : Env} {R : Room} {s : State} {m : MethodId} {args : Array Value} {below : List Frame} {meth : Method} {c : Code} {Q : State → Prop}
variable {cc : ByteArray} {σA : List Int} {pc : Nat} {as : zAS} {H : Heap} {locs : List Loc} {ls : Array Slot} {rest : List Value}
theorem z_icmp (hexec : p.tables.exec = Jvm.exec) (hb : c.code = cc) {cd : Jvm.ClassFile.Cond} {x y : Int32} {off : Int} {tgt : Nat} (hdg : decode cc pc = .ok (.if_icmp cd off, 3)) (ht : (pc : Int) + off = (tgt : Int))
    (kt : zcmp (zcn cd) x.toInt y.toInt → W p l e R s m args below meth c H locs 0 0 Q (F0 m tgt ls rest)) (kf : ¬ zcmp (zcn cd) x.toInt y.toInt → W p l e R s m args below meth c H locs 0 0 Q (F0 m (pc + 3) ls rest)) :
    W p l e R s m args below meth c H locs 0 0 Q (F0 m pc ls (.int y :: .int x :: rest)) := by
  cases cd with
  | lt => exact lv_icmp_lt hexec hb hdg ht (fun h => kt (Int32.lt_iff_toInt_lt.mp h)) (fun h => kf (fun g => h (Int32.lt_iff_toInt_lt.mpr g)))
  | ge => exact lv_icmp_ge hexec hb hdg ht (fun h => kt (Int32.le_iff_toInt_le.mp h)) (fun h => kf (fun g => h (Int32.le_iff_toInt_le.mpr g)))
  | gt => exact lv_icmp_gt hexec hb hdg ht (fun h => kt (Int32.lt_iff_toInt_lt.mp h)) (fun h => kf (fun g => h (Int32.lt_iff_toInt_lt.mpr g)))
  | le => exact lv_icmp_le hexec hb hdg ht (fun h => kt (Int32.le_iff_toInt_le.mp h)) (fun h => kf (fun g => h (Int32.le_iff_toInt_le.mpr g)))
  | eq => exact lv_icmp_eq hexec hb hdg ht (fun h => kt (by rw [h]; exact rfl)) (fun h => kf (fun g => h (Int32.toInt_inj.mp g)))
  | ne => exact lv_icmp_ne hexec hb hdg ht (fun h => kt (fun g => h (Int32.toInt_inj.mp g))) (fun h => kf (fun g => g (by rw [h])))
theorem z_ic0 (hexec : p.tables.exec = Jvm.exec) (hb : c.code = cc) {cd : Jvm.ClassFile.Cond} {x : Int32} {off : Int} {tgt : Nat} (hdg : decode cc pc = .ok (.ifCond cd off, 3)) (ht : (pc : Int) + off = (tgt : Int))
    (kt : zcmp (zcn cd) x.toInt 0 → W p l e R s m args below meth c H locs 0 0 Q (F0 m tgt ls rest)) (kf : ¬ zcmp (zcn cd) x.toInt 0 → W p l e R s m args below meth c H locs 0 0 Q (F0 m (pc + 3) ls rest)) :
    W p l e R s m args below meth c H locs 0 0 Q (F0 m pc ls (.int x :: rest)) := by
  have e0 : (0 : Int32).toInt = 0 := rfl
  rw [← e0] at kt kf
  cases cd with
  | lt => exact lv_if_lt hexec hb hdg ht (fun h => kt (Int32.lt_iff_toInt_lt.mp h)) (fun h => kf (fun g => h (Int32.lt_iff_toInt_lt.mpr g)))
  | ge => exact lv_if_ge hexec hb hdg ht (fun h => kt (Int32.le_iff_toInt_le.mp h)) (fun h => kf (fun g => h (Int32.le_iff_toInt_le.mpr g)))
  | gt => exact lv_if_gt hexec hb hdg ht (fun h => kt (Int32.lt_iff_toInt_lt.mp h)) (fun h => kf (fun g => h (Int32.lt_iff_toInt_lt.mpr g)))
  | le => exact lv_if_le hexec hb hdg ht (fun h => kt (Int32.le_iff_toInt_le.mp h)) (fun h => kf (fun g => h (Int32.le_iff_toInt_le.mpr g)))
  | eq => exact lv_if_eq hexec hb hdg ht (fun h => kt (by rw [h]; exact rfl)) (fun h => kf (fun g => h (Int32.toInt_inj.mp g)))
  | ne => exact lv_if_ne hexec hb hdg ht (fun h => kt (fun g => h (Int32.toInt_inj.mp g))) (fun h => kf (fun g => g (by rw [h])))
end ZBR
end
section
variable {η : zRn}
/-! the heap: slots of cells -/
def zup (h : Nat → Nat → Int) (a j : Nat) (x : Int) : Nat → Nat → Int := fun b i => if b = a ∧ i = j then x else h b i
theorem zup_at (h : Nat → Nat → Int) (a j : Nat) (x : Int) : zup h a j x a j = x := by simp [zup]
theorem zup_ne {h : Nat → Nat → Int} {a j b i : Nat} {x : Int} (e : ¬ (b = a ∧ i = j)) : zup h a j x b i = h b i := by unfold zup; rw [if_neg e]
theorem zup_row {h : Nat → Nat → Int} {a j b : Nat} {x : Int} (e : b ≠ a) : zup h a j x b = h b := by
  funext i
  exact zup_ne (fun q => e q.1)
theorem zf_at {kds : List zKD} {cy : Nat → ClassId} {Θ : Nat → Option Nat} {h : Nat → Nat → Int} {a k : Nat} {K : zKD} (h1 : Θ a = some k) (h2 : kds[k]? = some K) : zf η kds cy Θ h a = zE η cy K (h a) := by
  unfold zf
  rw [h1]
  simp [List.getD_eq_getElem?_getD, h2]
theorem zF_at {kds : List zKD} {cy : Nat → ClassId} {Θ : Nat → Option Nat} {h : Nat → Nat → Int} {a k : Nat} {K : zKD} (h0 : η.2 (η.1 a) = a) (h1 : Θ a = some k) (h2 : kds[k]? = some K) : zF η kds cy Θ h (η.1 a) = zE η cy K (h a) := by
  unfold zF
  rw [h0]
  exact zf_at h1 h2
theorem zpl_congr {L : List Nat} {f g : Nat → va_E} (h : ∀ q ∈ L, f q = g q) : va_pl L f = va_pl L g := by
  unfold va_pl
  exact List.map_congr_left fun q hq => by rw [h q hq]
theorem zE_o {cy : Nat → ClassId} {K : zKD} {g : Nat → Int} (h : K.1 = 0) : zE η cy K g = .inr (K.2.1, (List.range K.2.2.1).map (fun j => zdec η (zty K j).1 (g j))) := by
  unfold zE; rw [h]; rfl
theorem zE_i {cy : Nat → ClassId} {K : zKD} {g : Nat → Int} (h : K.1 = 1) : zE η cy K g = .inl (cy K.2.1, K.2.2.1, .inl (fun j => Int32.ofInt (g j))) := by
  unfold zE; rw [h]; rfl
theorem zE_q {cy : Nat → ClassId} {K : zKD} {g : Nat → Int} (h : K.1 = 2) : zE η cy K g = .inl (cy K.2.1, K.2.2.1, .inr (.inr (.inr (.inr (fun j => zrf η (g j)))))) := by
  unfold zE; rw [h]; rfl
section ZHP
variable {kds : List zKD} {D : va_G} {cl : List vw_C} {cy : Nat → ClassId} {L : List Nat} {Θ : Nat → Option Nat} {h0 : Nat → Nat → Int} {eff : List (Nat × Nat × Nat)} {A : Nat → Prop} {H0 : Heap} {nL : Nat}
theorem zH_get {h : Nat → Nat → Int} {H : Heap} {a k : Nat} {K : zKD} (g : zH η kds D cl cy L Θ h H) (h1 : Θ a = some k) (h2 : kds[k]? = some K) (h3 : K.1 ≤ 2) : ∃ q0 : Nat, ([] ++ va_pl L (zF η kds cy Θ h))[q0]? = some (η.1 a, zE η cy K (h a)) := by
  obtain ⟨K', e1, e2, -⟩ := g.2.2 a k h1
  cases h2.symm.trans e1
  obtain ⟨q0, hq⟩ := va_pl_get (X := []) (f := zF η kds cy Θ h) (e2 h3).1
  exact ⟨q0, by rw [hq, zF_at (e2 h3).2 h1 h2]⟩
theorem zH_in {h : Nat → Nat → Int} {H : Heap} {a k : Nat} {K : zKD} (g : zH η kds D cl cy L Θ h H) (h1 : Θ a = some k) (h2 : kds[k]? = some K) {j : Nat} (hj : j < K.2.2.1) : zok Θ (zty K j).1 (h a j) ∧ (zty K j).2.1 ≤ h a j ∧ h a j ≤ (zty K j).2.2 := by
  obtain ⟨K', e1, -, e3⟩ := g.2.2 a k h1
  cases h2.symm.trans e1
  exact e3 j hj
/-- the world behind a write -/
theorem zH_put {h : Nat → Nat → Int} {H H1 : Heap} {a k j q0 : Nat} {K : zKD} {x : Int} (g : zH η kds D cl cy L Θ h H) (hD : va_D A ([] ++ va_pl L (zF η kds cy Θ h))) (h1 : Θ a = some k) (h2 : kds[k]? = some K) (h3 : K.1 ≤ 2) (hj : j < K.2.2.1)
    (hx : zok Θ (zty K j).1 x ∧ (zty K j).2.1 ≤ x ∧ x ≤ (zty K j).2.2) (hq : ([] ++ va_pl L (zF η kds cy Θ h))[q0]? = some (η.1 a, zE η cy K (h a)))
    (hP : va_P D cl (([] ++ va_pl L (zF η kds cy Θ h)).set q0 (η.1 a, zE η cy K (zup h a j x a))) H1) : zH η kds D cl cy L Θ (zup h a j x) H1 := by
  obtain ⟨K', e1, e2, -⟩ := g.2.2 a k h1
  cases h2.symm.trans e1
  obtain ⟨e3, e4⟩ := e2 h3
  refine ⟨?_, g.2.1, fun b kb hb => ?_⟩
  · rw [va_pl_set hD e3 (by rw [hq, zF_at e4 h1 h2])] at hP
    rw [zpl_congr (g := va_up (zF η kds cy Θ h) (η.1 a) (zE η cy K (zup h a j x a)))]
    · exact hP
    · intro b hbL
      by_cases hb : b = η.1 a
      · subst hb
        rw [va_up_self, zF_at e4 h1 h2]
      · rw [va_up_ne _ _ hb]
        unfold zF zf
        rw [zup_row (fun e => hb (by rw [← e]; exact (g.2.1 b hbL).symm))]
  · obtain ⟨Kb, f1, f2, f3⟩ := g.2.2 b kb hb
    refine ⟨Kb, f1, f2, fun i hi => ?_⟩
    by_cases e : b = a ∧ i = j
    · obtain ⟨rfl, rfl⟩ := e
      cases h1.symm.trans hb
      cases h2.symm.trans f1
      rw [zup_at]
      exact hx
    · rw [zup_ne e]
      exact f3 i hi
/-! overrides -/
theorem z_D {f : Nat → va_E} (hn : L.Nodup) (hA : ∀ a ∈ L, A a) : va_D A ([] ++ va_pl L f) := by
  rw [List.nil_append]
  refine ⟨fun i j x y hx hy e => ?_, fun k q hq => ?_⟩
  · unfold va_pl at hx hy
    rw [List.getElem?_map] at hx hy
    obtain ⟨u, hu, rfl⟩ := Option.map_eq_some_iff.mp hx
    obtain ⟨w, hw, rfl⟩ := Option.map_eq_some_iff.mp hy
    simp only at e
    subst e
    have hi := (List.getElem?_eq_some_iff.mp hu).1
    exact (List.getElem?_inj hi hn).mp (hu.trans hw.symm)
  · unfold va_pl at hq
    rw [List.getElem?_map] at hq
    obtain ⟨u, hu, rfl⟩ := Option.map_eq_some_iff.mp hq
    exact hA u (List.mem_of_getElem? hu)
end ZHP
end
section
variable {η : zRn}
/-! instructions that read or write the heap -/
theorem z_fs {K : zKD} {g : Nat → Int} {k : Nat} (h : k < K.2.2.1) : ((List.range K.2.2.1).map (fun j => zdec η (zty K j).1 (g j)))[k]? = some (zdec η (zty K k).1 (g k)) := by
  rw [List.getElem?_map, List.getElem?_range h]
  rfl
theorem z_fset {K : zKD} {h : Nat → Nat → Int} {a k : Nat} {x : Int} : ((List.range K.2.2.1).map (fun j => zdec η (zty K j).1 (h a j))).set k (zdec η (zty K k).1 x) = (List.range K.2.2.1).map (fun j => zdec η (zty K j).1 (zup h a k x a j)) := by
  apply List.ext_getElem?
  intro i
  by_cases e : k = i
  · subst e
    rw [List.getElem?_set]
    simp only [if_true]
    by_cases hk : k < K.2.2.1
    · rw [if_pos (by simpa using hk), z_fs (g := fun j => zup h a k x a j) hk, zup_at]
    · rw [if_neg (by simpa using hk), List.getElem?_eq_none (by simpa using hk)]
  · rw [List.getElem?_set_ne e]
    rw [List.getElem?_map, List.getElem?_map]
    cases hi : (List.range K.2.2.1)[i]? with
    | none => rfl
    | some j =>
      have : j = i := by
        have := List.getElem?_eq_some_iff.mp hi
        obtain ⟨h1, h2⟩ := this
        simpa using h2.symm
      subst this
      simp only [Option.map_some]
      rw [zup_ne (fun q => e q.2.symm)]
/-- a field's type and a slot's -/
def zfty (ty : FieldType) (τ : Nat × Int × Int) : Bool := match ty, τ.1 with
  | .int, 0 => true
  | .boolean, 0 => decide (0 ≤ τ.2.1) && decide (τ.2.2 ≤ 1)
  | .long, 1 => true
  | .object _, _ + 2 => true
  | .array _, _ + 2 => true
  | _, _ => false
theorem z_b01 : ∀ k : Fin 2, narrow .boolean (.int (Int32.ofInt (k.val : Int))) = .int (Int32.ofInt (k.val : Int)) ∧ fits .boolean (.int (Int32.ofInt (k.val : Int))) = true := by decide +kernel
theorem z_fty {Θ : Nat → Option Nat} {ty : FieldType} {τ : Nat × Int × Int} {x : Int} (h : zfty ty τ = true) (hx : zok Θ τ.1 x) (h1 : τ.2.1 ≤ x) (h2 : x ≤ τ.2.2) : narrow ty (zdec η τ.1 x) = zdec η τ.1 x ∧ fits ty (zdec η τ.1 x) = true := by
  unfold zfty at h
  split at h
  · rename_i e
    rw [e]
    exact ⟨rfl, rfl⟩
  · rename_i e
    simp only [Bool.and_eq_true, decide_eq_true_eq] at h
    rw [e]
    have := z_b01 ⟨x.toNat, by omega⟩
    simp only at this
    rw [show ((x.toNat : Nat) : Int) = x by omega] at this
    exact this
  · rename_i e
    rw [e]
    exact ⟨rfl, rfl⟩
  · rename_i e
    rw [e]
    show narrow _ (va_rf (zrf η x)) = va_rf (zrf η x) ∧ fits _ (va_rf (zrf η x)) = true
    cases zrf η x <;> exact ⟨rfl, rfl⟩
  · rename_i e
    rw [e]
    show narrow _ (va_rf (zrf η x)) = va_rf (zrf η x) ∧ fits _ (va_rf (zrf η x)) = true
    cases zrf η x <;> exact ⟨rfl, rfl⟩
  · cases h
section ZHI
variable {kds : List zKD} {D : va_G} {cl : List vw_C} {cy : Nat → ClassId} {L : List Nat} {Θ : Nat → Option Nat} {h0 : Nat → Nat → Int} {eff : List (Nat × Nat × Nat)} {A : Nat → Prop} {H0 : Heap} {nL : Nat}
variable {p : Program} {l : Launch} {e : Env} {R : Room} {s : State} {m : MethodId} {args : Array Value} {below : List Frame} {meth : Method} {c : Code} {Q : State → Prop}
variable {cc : ByteArray} {σA : List Int} {pc : Nat} {as : zAS} {tys : List (ClassId × FieldType)} {Ts : List Cond} {own : String}
end ZHI
end
section
variable {η : zRn}
/-! arrays -/
section ZAR
variable {kds : List zKD} {D : va_G} {cl : List vw_C} {cy : Nat → ClassId} {L : List Nat} {Θ : Nat → Option Nat} {h0 : Nat → Nat → Int} {eff : List (Nat × Nat × Nat)} {A : Nat → Prop} {H0 : Heap} {nL : Nat}
theorem z_vin {i : Int32} {n : Nat} (h1 : 0 ≤ i.toInt) (h2 : i.toInt < (n : Int)) : vp_in i n ∧ i.toNatClampNeg = i.toInt.toNat := by
  refine ⟨fun q => ?_, rfl⟩
  rcases q with q | q
  · have := Int32.lt_iff_toInt_lt.mp q
    rw [show (0 : Int32).toInt = 0 from rfl] at this
    omega
  · rw [show i.toNatClampNeg = i.toInt.toNat from rfl] at q
    omega
variable {p : Program} {l : Launch} {e : Env} {R : Room} {s : State} {m : MethodId} {args : Array Value} {below : List Frame} {meth : Method} {c : Code} {Q : State → Prop}
variable {cc : ByteArray} {σA : List Int} {pc : Nat} {as : zAS} {tys : List (ClassId × FieldType)}
end ZAR
end
section
variable {η : zRn}
/-! one abstract state says no more than another: by a map of the other's symbols -/
abbrev zSB : Type := List (Nat × Nat × Int)
section ZMT
variable {kds : List zKD} {D : va_G} {cl : List vw_C} {cy : Nat → ClassId} {L : List Nat} {Θ : Nat → Option Nat} {h0 : Nat → Nat → Int} {eff : List (Nat × Nat × Nat)} {A : Nat → Prop} {H0 : Heap} {nL : Nat}
end ZMT
end
section
variable {η : zRn}
/-! ranks: a number that falls from one marked place to the next -/
abbrev zRK : Type := Int × List (Nat × Int)
end
section
/-! the step of the checker, for instructions that go straight on -/
/-- fields by their numbers in the pool: class, field, and the type where it may be written -/
abbrev zFL : Type := List (Nat × Nat × Nat × Option FieldType)
def zba (K : zKD) (lo hi : Int) : Bool := K.2.2.2.all (fun τ => decide (lo ≤ τ.2.1) && decide (τ.2.2 ≤ hi))
theorem z_ba {K : zKD} {lo hi : Int} (h : zba K lo hi = true) (h1 : lo ≤ 0) (h2 : -1 ≤ hi) (j : Nat) : lo ≤ (zty K j).2.1 ∧ (zty K j).2.2 ≤ hi := by
  unfold zty
  rw [List.getD_eq_getElem?_getD]
  cases hq : K.2.2.2[j % K.2.2.2.length]? with
  | none => exact ⟨h1, h2⟩
  | some τ =>
    have := List.all_eq_true.mp h τ (List.mem_of_getElem? hq)
    simpa using this
end
section
variable {η : zRn}
/-! the step is sound -/
/-- what is said of a field of the pool -/
def zFok (own : String) (Ts : List Cond) (cl : List vw_C) (q : Nat × Nat × Nat × Option FieldType) : Prop :=
  ∃ (C : String) (T : u_T) (N : Nat), cl[q.2.1]? = some (C, T, N) ∧ (∀ w ∈ u_ws C T N, w ∈ Ts) ∧ q.2.2.1 < N ∧ Cond.fieldLink own q.1 (T q.2.2.1).1 (T q.2.2.1).2.1 (T q.2.2.1).2.2.1 ∈ Ts ∧
    ∀ ty, q.2.2.2 = some ty → (T q.2.2.1).2.2.2 = false ∧ ∃ ty0 : Nat → FieldType, (∀ k, k < N → parseFieldDescriptor (T k).2.2.1 = some (ty0 k)) ∧ (∀ a, a < N → ∀ b, b < N → a ≠ b → (T a).2.1 ≠ (T b).2.1) ∧ ty0 q.2.2.1 = ty
/-- the array classes -/
def zTy (cy : Nat → ClassId) (tys : List (ClassId × FieldType)) : Prop :=
  tys[0]? = some (cy 0, .int) ∧ tys[1]? = some (cy 1, .byte) ∧ tys[2]? = some (cy 2, .boolean) ∧ ∀ t, 3 ≤ t → t ≤ 6 → ∃ C : String, tys[t]? = some (cy t, .object C)
section ZSO
variable {kds : List zKD} {D : va_G} {cl : List vw_C} {cy : Nat → ClassId} {L : List Nat} {Θ : Nat → Option Nat} {h0 : Nat → Nat → Int} {eff : List (Nat × Nat × Nat)} {A : Nat → Prop} {H0 : Heap} {nL : Nat}
variable {p : Program} {l : Launch} {e : Env} {R : Room} {s : State} {m : MethodId} {args : Array Value} {below : List Frame} {meth : Method} {c : Code} {Q : State → Prop}
variable {cc : ByteArray} {σA : List Int} {pc : Nat} {as as' : zAS} {tys : List (ClassId × FieldType)} {Ts : List Cond} {own : String} {fl : zFL} {cs : List (Nat × Int) × List (Nat × Int)}
end ZSO
end
section
variable {η : zRn}
/-! all the straight instructions -/
section ZSP
variable {kds : List zKD} {D : va_G} {cl : List vw_C} {cy : Nat → ClassId} {L : List Nat} {Θ : Nat → Option Nat} {h0 : Nat → Nat → Int} {eff : List (Nat × Nat × Nat)} {A : Nat → Prop} {H0 : Heap} {nL : Nat}
variable {p : Program} {l : Launch} {e : Env} {R : Room} {s : State} {m : MethodId} {args : Array Value} {below : List Frame} {meth : Method} {c : Code} {Q : State → Prop}
variable {cc : ByteArray} {σA : List Int} {pc : Nat} {as as' : zAS} {tys : List (ClassId × FieldType)} {Ts : List Cond} {own : String} {fl : zFL} {cs : List (Nat × Int) × List (Nat × Int)}
theorem z_nz {y : Int32} (h : 1 ≤ y.toInt) : ¬ y = 0 := by
  intro e
  rw [e, show (0 : Int32).toInt = 0 from rfl] at h
  omega
theorem z_rem {x y : Int32} (hy : 1 ≤ y.toInt) : x - x / y * y = x % y := by
  apply Int32.toInt_inj.mp
  rw [Int32.toInt_mod]
  have d := z_div (x := x) hy
  have t := Int.tmod_def x.toInt y.toInt
  have b1 := z_lo x
  have b2 := z_hi x
  have t2 : min 0 x.toInt ≤ x.toInt.tmod y.toInt ∧ x.toInt.tmod y.toInt ≤ max 0 x.toInt := by
    rcases Int.le_total 0 x.toInt with hx | hx
    · have e1 := Int.tmod_nonneg y.toInt hx
      have e2 : 0 ≤ x.toInt.tdiv y.toInt := Int.tdiv_nonneg hx (by omega)
      have e3 : 0 ≤ y.toInt * x.toInt.tdiv y.toInt := Int.mul_nonneg (by omega) e2
      omega
    · have hn : 0 ≤ -x.toInt := by omega
      have e1 := Int.tmod_nonneg y.toInt hn
      have e2 : 0 ≤ (-x.toInt).tdiv y.toInt := Int.tdiv_nonneg hn (by omega)
      have e3 : 0 ≤ y.toInt * (-x.toInt).tdiv y.toInt := Int.mul_nonneg (by omega) e2
      have e4 := Int.tmod_def (-x.toInt) y.toInt
      rw [Int.neg_tmod] at e1 e4
      omega
  have m1 : (x / y * y).toInt = x.toInt.tdiv y.toInt * y.toInt := by
    rw [← d]
    apply z_mul
    · rw [d, Int.mul_comm]; omega
    · rw [d, Int.mul_comm]; omega
  rw [Int.mul_comm] at m1
  have := z_sub (x := x) (y := x / y * y) (by rw [m1]; omega) (by rw [m1]; omega)
  rw [this, m1]
  omega
theorem z_dq {t : Nat} {x : Int} (h : 2 ≤ t) : zdec η t x = va_rf (zrf η x) := by
  match t, h with
  | t + 2, _ => rfl
theorem z_nb8 : ∀ k : Fin 256, vp_nar .byte (Int32.ofInt ((k.val : Int) - 128)) = Int32.ofInt ((k.val : Int) - 128) := by decide +kernel
theorem z_narb {x : Int32} (h1 : -128 ≤ x.toInt) (h2 : x.toInt ≤ 127) : vp_nar .byte x = x := by
  have := z_nb8 ⟨(x.toInt + 128).toNat, by omega⟩
  simp only at this
  rw [show ((x.toInt + 128).toNat : Int) - 128 = x.toInt by omega, z_ofi] at this
  exact this
theorem z_nz1 : ∀ k : Fin 2, vp_nar .boolean (Int32.ofInt (k.val : Int)) = Int32.ofInt (k.val : Int) := by decide +kernel
theorem z_narz {x : Int32} (h1 : 0 ≤ x.toInt) (h2 : x.toInt ≤ 1) : vp_nar .boolean x = x := by
  have := z_nz1 ⟨x.toInt.toNat, by omega⟩
  simp only at this
  rw [show ((x.toInt.toNat : Nat) : Int) = x.toInt by omega, z_ofi] at this
  exact this
end ZSP
end
section
variable {η : zRn}
/-! the checker -/
/-- a contract: name, code, locals, what it returns; frames and locals' words; values and state at its start; its outcomes; what it may change -/
abbrev zCT : Type := (MethodName × ByteArray × Nat × Option FieldType) × (Nat × Nat) × (List zAV × zAS) × List zAS × List (Nat × Nat × Nat)
/-- a method as the checker wants it: instructions; fields; constants; contracts by place; own steps by place; marked states; places where the top's symbol is split -/
abbrev zMD : Type := List (Nat × Jvm.ClassFile.Instr × Nat) × zFL × (List (Nat × Int) × List (Nat × Int)) × List (Nat × List zCT) × List (Nat × Nat × (zAS → Option zAS)) × List (Nat × zAS × zRK) × List Nat
end
section
variable {η : zRn}
/-! the checker is sound -/
section ZSD
variable {kds : List zKD} {D : va_G} {cl : List vw_C} {cy : Nat → ClassId} {L : List Nat} {Θ : Nat → Option Nat} {h0 : Nat → Nat → Int} {eff : List (Nat × Nat × Nat)} {A : Nat → Prop} {H0 : Heap} {nL : Nat}
variable {p : Program} {l : Launch} {e : Env} {R : Room} {s : State} {m : MethodId} {args : Array Value} {below : List Frame} {meth : Method} {c : Code} {Q : State → Prop}
variable {cc : ByteArray} {σ0 σA : List Int} {pc : Nat} {as as' : zAS} {tys : List (ClassId × FieldType)} {Ts : List Cond} {own : String} {M : zMD} {ret : Option FieldType} {outs : List zAS}
theorem z_lc {x y : Int64} (cd : Nat) : zcmp cd (lg_cmp x y).toInt 0 ↔ zcmp cd x.toInt y.toInt := by
  have key : ((lg_cmp x y).toInt = 1 ∧ y.toInt < x.toInt) ∨ ((lg_cmp x y).toInt = 0 ∧ x.toInt = y.toInt) ∨ ((lg_cmp x y).toInt = -1 ∧ x.toInt < y.toInt) := by
    unfold lg_cmp
    by_cases h1 : x > y
    · rw [if_pos h1]
      exact Or.inl ⟨rfl, Int64.lt_iff_toInt_lt.mp h1⟩
    · rw [if_neg h1]
      by_cases h2 : x = y
      · rw [if_pos h2]
        exact Or.inr (Or.inl ⟨rfl, by rw [h2]⟩)
      · rw [if_neg h2]
        refine Or.inr (Or.inr ⟨rfl, ?_⟩)
        have h3 : ¬ y.toInt < x.toInt := fun q => h1 (Int64.lt_iff_toInt_lt.mpr q)
        have h4 : ¬ x.toInt = y.toInt := fun q => h2 (Int64.toInt_inj.mp q)
        omega
  unfold zcmp
  split <;> omega
end ZSD
end
section
variable {η : zRn}
/-! contracts -/
abbrev zKPt : Type := zRn → va_G → (Nat → ClassId) → List Nat → (Nat → Option Nat) → State → Prop
/-- what is asked of the words on the classes -/
def zKPok (cl : List vw_C) (tyf : (Nat → ClassId) → List (ClassId × FieldType)) (KP : zKPt) : Prop :=
  (∀ η D cy L Θ U, KP η D cy L Θ U → va_K D cl (tyf cy) U ∧ zTy cy (tyf cy)) ∧
  (∀ η D cy L Θ (s U : State), KP η D cy L Θ s → s.WarmedH U.vm → s.heap.size ≤ U.heap.size → (∀ q, q < s.heap.size → q ∉ L → U.heap[q]? = s.heap[q]?) → KP η D cy L Θ U) ∧
  (∀ η D cy L Θ (U : State) (g : JFrame) (mk : MethodId) (a : Array Value), KP η D cy L Θ U → KP η D cy L Θ (U.calling g mk a))
def zgoodW (TW : List Cond) : Prop := ∀ w ∈ TW, (w.onTables && w.keeps) = true ∨ ∃ ty, w = .arrayClass ty
section ZME
variable {kds : List zKD} {D : va_G} {cl : List vw_C} {cy : Nat → ClassId} {L : List Nat} {Θ : Nat → Option Nat} {nL : Nat}
variable {p : Program} {l : Launch} {e : Env} {R : Room} {s : State} {m : MethodId} {args : Array Value} {below : List Frame} {meth : Method} {c : Code}
variable {cc : ByteArray} {pc : Nat} {TW Ts : List Cond} {own : String} {KP : zKPt} {tyf : (Nat → ClassId) → List (ClassId × FieldType)}
theorem z_blind (hKP : zKPok cl tyf KP) {h : Nat → Nat → Int} {av : List Value} : FrameBlind (va_Pc av (fun U => zH η kds D cl cy L Θ h U.heap ∧ KP η D cy L Θ U)) := fun _ U g mk q => ⟨q.1, q.2.1, hKP.2.2 _ _ _ _ _ U g mk _ q.2.2⟩
theorem z_good (hg : zgoodW TW) {w0 w1 : Cond} (h1 : w1 ∈ TW) : GoodIn (w0 :: TW) (w1 :: TW) := by
  intro w hw
  rcases List.mem_cons.mp hw with rfl | hw
  · exact ⟨List.mem_cons_of_mem _ h1, hg _ h1⟩
  · exact ⟨List.mem_cons_of_mem _ hw, hg _ hw⟩
end ZME
end
section
variable {η : zRn}
/-! a method that passes the check keeps its contract -/
theorem zFok_mono {own : String} {T1 T2 : List Cond} {cl : List vw_C} {q : Nat × Nat × Nat × Option FieldType} (hm : ∀ w ∈ T1, w ∈ T2) (h : zFok own T1 cl q) : zFok own T2 cl q := by
  obtain ⟨C, T, N, h1, h2, h3, h4, h5⟩ := h
  exact ⟨C, T, N, h1, fun w hw => hm w (h2 w hw), h3, hm _ h4, h5⟩
end
section
-- ===== PART A: goes FIRST, ahead of the names: the tables' words, and 'selects' of the private methods out of them =====
/-- a private method of a class that the tables say can be made, by its rows of tables_1 -/
def lw_okq (q : MethodName × Nat) : Prop := (q.1.cls ≠ "java/lang/invoke/MethodHandle" ∧ q.1.cls ≠ "java/lang/invoke/VarHandle") ∧ Cond.instantiable q.1.cls q.2 ∈ tables_1 ∧ Cond.privateMethod q.1 ∈ tables_1 ∧ Cond.instanceMethod q.1 ∈ tables_1
theorem tm_1 {w : Cond} {i : Nat} (h : tables_1_1[i]? = some w) : w ∈ tables_1 := List.mem_append_left _ (List.mem_of_getElem? h)
theorem tm_2 {w : Cond} {i : Nat} (h : tables_1_2[i]? = some w) : w ∈ tables_1 := List.mem_append_right _ (List.mem_append_left _ (List.mem_of_getElem? h))
theorem tm_3 {w : Cond} {i : Nat} (h : tables_1_3[i]? = some w) : w ∈ tables_1 := List.mem_append_right _ (List.mem_append_right _ (List.mem_append_left _ (List.mem_of_getElem? h)))
theorem tm_4 {w : Cond} {i : Nat} (h : tables_1_4[i]? = some w) : w ∈ tables_1 := List.mem_append_right _ (List.mem_append_right _ (List.mem_append_right _ (List.mem_append_left _ (List.mem_of_getElem? h))))
theorem tm_5 {w : Cond} {i : Nat} (h : tables_1_5[i]? = some w) : w ∈ tables_1 := List.mem_append_right _ (List.mem_append_right _ (List.mem_append_right _ (List.mem_append_right _ (List.mem_append_left _ (List.mem_of_getElem? h)))))
theorem tm_6 {w : Cond} {i : Nat} (h : tables_1_6[i]? = some w) : w ∈ tables_1 := List.mem_append_right _ (List.mem_append_right _ (List.mem_append_right _ (List.mem_append_right _ (List.mem_append_right _ (List.mem_append_left _ (List.mem_of_getElem? h))))))
theorem tm_7 {w : Cond} {i : Nat} (h : tables_1_7[i]? = some w) : w ∈ tables_1 := List.mem_append_right _ (List.mem_append_right _ (List.mem_append_right _ (List.mem_append_right _ (List.mem_append_right _ (List.mem_append_right _ (List.mem_append_left _ (List.mem_of_getElem? h)))))))
theorem tm_8 {w : Cond} {i : Nat} (h : tables_1_8[i]? = some w) : w ∈ tables_1 := List.mem_append_right _ (List.mem_append_right _ (List.mem_append_right _ (List.mem_append_right _ (List.mem_append_right _ (List.mem_append_right _ (List.mem_append_right _ (List.mem_of_getElem? h)))))))
theorem lw_p0 : lw_okq (⟨"ShoalClaims$Reader", "readLine", "(LShoalClaims$Tape;I)Z"⟩, 10) := ⟨⟨by decide +kernel, by decide +kernel⟩, tm_1 (i := 237) (by decide +kernel), tm_3 (i := 57) (by decide +kernel), tm_3 (i := 58) (by decide +kernel)⟩
theorem lw_p1 : lw_okq (⟨"ShoalClaims$Reader", "nextToken", "(LShoalClaims$Tape;)V"⟩, 10) := ⟨⟨by decide +kernel, by decide +kernel⟩, tm_1 (i := 237) (by decide +kernel), tm_3 (i := 61) (by decide +kernel), tm_3 (i := 62) (by decide +kernel)⟩
theorem lw_p2 : lw_okq (⟨"ShoalClaims$Reader", "lineOf", "(LShoalClaims$Tape;I)I"⟩, 10) := ⟨⟨by decide +kernel, by decide +kernel⟩, tm_1 (i := 237) (by decide +kernel), tm_3 (i := 78) (by decide +kernel), tm_3 (i := 79) (by decide +kernel)⟩
theorem lw_p3 : lw_okq (⟨"ShoalClaims$Reader", "isOnTape", "(LShoalClaims$Tape;Ljava/lang/String;)Z"⟩, 10) := ⟨⟨by decide +kernel, by decide +kernel⟩, tm_1 (i := 237) (by decide +kernel), tm_3 (i := 102) (by decide +kernel), tm_3 (i := 103) (by decide +kernel)⟩
theorem lw_p4 : lw_okq (⟨"ShoalClaims$Reader", "breakOff", "()Z"⟩, 10) := ⟨⟨by decide +kernel, by decide +kernel⟩, tm_1 (i := 237) (by decide +kernel), tm_3 (i := 154) (by decide +kernel), tm_3 (i := 155) (by decide +kernel)⟩
theorem lw_p5 : lw_okq (⟨"ShoalClaims$Reader", "numberOnTape", "(LShoalClaims$Tape;)I"⟩, 10) := ⟨⟨by decide +kernel, by decide +kernel⟩, tm_1 (i := 237) (by decide +kernel), tm_3 (i := 160) (by decide +kernel), tm_3 (i := 161) (by decide +kernel)⟩
theorem lw_p6 : lw_okq (⟨"ShoalClaims$Reader", "checkLine", "(II)V"⟩, 10) := ⟨⟨by decide +kernel, by decide +kernel⟩, tm_1 (i := 237) (by decide +kernel), tm_3 (i := 164) (by decide +kernel), tm_3 (i := 165) (by decide +kernel)⟩
theorem lw_p7 : lw_okq (⟨"ShoalClaims$Reader", "isOneTooMany", "(I)Z"⟩, 10) := ⟨⟨by decide +kernel, by decide +kernel⟩, tm_1 (i := 237) (by decide +kernel), tm_3 (i := 168) (by decide +kernel), tm_3 (i := 169) (by decide +kernel)⟩
theorem lw_p8 : lw_okq (⟨"ShoalClaims$Reader", "note", "(II)V"⟩, 10) := ⟨⟨by decide +kernel, by decide +kernel⟩, tm_1 (i := 237) (by decide +kernel), tm_3 (i := 172) (by decide +kernel), tm_3 (i := 173) (by decide +kernel)⟩
theorem lw_p9 : lw_okq (⟨"ShoalClaims$Reader", "takeLine", "(I)V"⟩, 10) := ⟨⟨by decide +kernel, by decide +kernel⟩, tm_1 (i := 237) (by decide +kernel), tm_3 (i := 180) (by decide +kernel), tm_3 (i := 181) (by decide +kernel)⟩
theorem lw_p10 : lw_okq (⟨"ShoalClaims", "runToStop", "(II)Z"⟩, 7) := ⟨⟨by decide +kernel, by decide +kernel⟩, tm_1 (i := 23) (by decide +kernel), tm_4 (i := 96) (by decide +kernel), tm_4 (i := 97) (by decide +kernel)⟩
theorem lw_p11 : lw_okq (⟨"ShoalClaims$Shoals", "add", "(III)V"⟩, 8) := ⟨⟨by decide +kernel, by decide +kernel⟩, tm_2 (i := 51) (by decide +kernel), tm_4 (i := 108) (by decide +kernel), tm_4 (i := 109) (by decide +kernel)⟩
theorem lw_p12 : lw_okq (⟨"ShoalClaims$Run", "doDeed", "()Z"⟩, 16) := ⟨⟨by decide +kernel, by decide +kernel⟩, tm_2 (i := 45) (by decide +kernel), tm_4 (i := 119) (by decide +kernel), tm_4 (i := 120) (by decide +kernel)⟩
theorem lw_p13 : lw_okq (⟨"ShoalClaims$Run", "rowBoat", "(II)Z"⟩, 16) := ⟨⟨by decide +kernel, by decide +kernel⟩, tm_2 (i := 45) (by decide +kernel), tm_4 (i := 125) (by decide +kernel), tm_4 (i := 126) (by decide +kernel)⟩
theorem lw_p14 : lw_okq (⟨"ShoalClaims$Run", "claimShoals", "(III)V"⟩, 16) := ⟨⟨by decide +kernel, by decide +kernel⟩, tm_2 (i := 45) (by decide +kernel), tm_4 (i := 141) (by decide +kernel), tm_4 (i := 142) (by decide +kernel)⟩
theorem lw_p15 : lw_okq (⟨"ShoalClaims$Run", "heardDespiteGulls", "()I"⟩, 16) := ⟨⟨by decide +kernel, by decide +kernel⟩, tm_2 (i := 45) (by decide +kernel), tm_4 (i := 150) (by decide +kernel), tm_4 (i := 151) (by decide +kernel)⟩
def lw_privs_1 : List (MethodName × Nat) := [(⟨"ShoalClaims$Reader", "readLine", "(LShoalClaims$Tape;I)Z"⟩, 10), (⟨"ShoalClaims$Reader", "nextToken", "(LShoalClaims$Tape;)V"⟩, 10), (⟨"ShoalClaims$Reader", "lineOf", "(LShoalClaims$Tape;I)I"⟩, 10), (⟨"ShoalClaims$Reader", "isOnTape", "(LShoalClaims$Tape;Ljava/lang/String;)Z"⟩, 10), (⟨"ShoalClaims$Reader", "breakOff", "()Z"⟩, 10), (⟨"ShoalClaims$Reader", "numberOnTape", "(LShoalClaims$Tape;)I"⟩, 10), (⟨"ShoalClaims$Reader", "checkLine", "(II)V"⟩, 10), (⟨"ShoalClaims$Reader", "isOneTooMany", "(I)Z"⟩, 10), (⟨"ShoalClaims$Reader", "note", "(II)V"⟩, 10), (⟨"ShoalClaims$Reader", "takeLine", "(I)V"⟩, 10), (⟨"ShoalClaims", "runToStop", "(II)Z"⟩, 7), (⟨"ShoalClaims$Shoals", "add", "(III)V"⟩, 8), (⟨"ShoalClaims$Run", "doDeed", "()Z"⟩, 16), (⟨"ShoalClaims$Run", "rowBoat", "(II)Z"⟩, 16), (⟨"ShoalClaims$Run", "claimShoals", "(III)V"⟩, 16), (⟨"ShoalClaims$Run", "heardDespiteGulls", "()I"⟩, 16)]
theorem lw_r1 : ∀ q ∈ lw_privs_1, lw_okq q := List.forall_mem_cons.mpr ⟨lw_p0, List.forall_mem_cons.mpr ⟨lw_p1, List.forall_mem_cons.mpr ⟨lw_p2, List.forall_mem_cons.mpr ⟨lw_p3, List.forall_mem_cons.mpr ⟨lw_p4, List.forall_mem_cons.mpr ⟨lw_p5, List.forall_mem_cons.mpr ⟨lw_p6, List.forall_mem_cons.mpr ⟨lw_p7, List.forall_mem_cons.mpr ⟨lw_p8, List.forall_mem_cons.mpr ⟨lw_p9, List.forall_mem_cons.mpr ⟨lw_p10, List.forall_mem_cons.mpr ⟨lw_p11, List.forall_mem_cons.mpr ⟨lw_p12, List.forall_mem_cons.mpr ⟨lw_p13, List.forall_mem_cons.mpr ⟨lw_p14, List.forall_mem_cons.mpr ⟨lw_p15, fun _ h => absurd h List.not_mem_nil⟩⟩⟩⟩⟩⟩⟩⟩⟩⟩⟩⟩⟩⟩⟩⟩
theorem lw_p16 : lw_okq (⟨"ShoalClaims$Run", "drawBelow", "(I)I"⟩, 16) := ⟨⟨by decide +kernel, by decide +kernel⟩, tm_2 (i := 45) (by decide +kernel), tm_4 (i := 154) (by decide +kernel), tm_4 (i := 155) (by decide +kernel)⟩
theorem lw_p17 : lw_okq (⟨"ShoalClaims$Run", "splitShoal", "(II)Z"⟩, 16) := ⟨⟨by decide +kernel, by decide +kernel⟩, tm_2 (i := 45) (by decide +kernel), tm_4 (i := 177) (by decide +kernel), tm_4 (i := 178) (by decide +kernel)⟩
theorem lw_p18 : lw_okq (⟨"ShoalClaims$Run", "netShoal", "(II)Z"⟩, 16) := ⟨⟨by decide +kernel, by decide +kernel⟩, tm_2 (i := 45) (by decide +kernel), tm_4 (i := 189) (by decide +kernel), tm_4 (i := 190) (by decide +kernel)⟩
theorem lw_p19 : lw_okq (⟨"ShoalClaims$Run", "fishOfAnother", "(II)I"⟩, 16) := ⟨⟨by decide +kernel, by decide +kernel⟩, tm_2 (i := 45) (by decide +kernel), tm_4 (i := 193) (by decide +kernel), tm_4 (i := 194) (by decide +kernel)⟩
theorem lw_p20 : lw_okq (⟨"ShoalClaims", "runToState", "(III)Z"⟩, 7) := ⟨⟨by decide +kernel, by decide +kernel⟩, tm_1 (i := 23) (by decide +kernel), tm_4 (i := 215) (by decide +kernel), tm_4 (i := 216) (by decide +kernel)⟩
theorem lw_p21 : lw_okq (⟨"ShoalClaims$Choices", "lookFromCells", "(LShoalClaims$Sea;III)V"⟩, 7) := ⟨⟨by decide +kernel, by decide +kernel⟩, tm_2 (i := 177) (by decide +kernel), tm_5 (i := 18) (by decide +kernel), tm_5 (i := 19) (by decide +kernel)⟩
theorem lw_p22 : lw_okq (⟨"ShoalClaims$Choices", "findGoals", "(LShoalClaims$Sea;II)V"⟩, 7) := ⟨⟨by decide +kernel, by decide +kernel⟩, tm_2 (i := 177) (by decide +kernel), tm_5 (i := 30) (by decide +kernel), tm_5 (i := 31) (by decide +kernel)⟩
theorem lw_p23 : lw_okq (⟨"ShoalClaims$Choices", "isWithin", "(LShoalClaims$Sea;II)Z"⟩, 7) := ⟨⟨by decide +kernel, by decide +kernel⟩, tm_2 (i := 177) (by decide +kernel), tm_5 (i := 36) (by decide +kernel), tm_5 (i := 37) (by decide +kernel)⟩
theorem lw_p24 : lw_okq (⟨"ShoalClaims$Choices", "firstRowTowards", "(LShoalClaims$Sea;II)I"⟩, 7) := ⟨⟨by decide +kernel, by decide +kernel⟩, tm_2 (i := 177) (by decide +kernel), tm_5 (i := 49) (by decide +kernel), tm_5 (i := 50) (by decide +kernel)⟩
theorem lw_p25 : lw_okq (⟨"ShoalClaims$Choices", "addFishTogether", "(LShoalClaims$Sea;)V"⟩, 7) := ⟨⟨by decide +kernel, by decide +kernel⟩, tm_2 (i := 177) (by decide +kernel), tm_5 (i := 62) (by decide +kernel), tm_5 (i := 63) (by decide +kernel)⟩
theorem lw_p26 : lw_okq (⟨"ShoalClaims$Choices", "claimableBeside", "(LShoalClaims$Sea;IIIII)I"⟩, 7) := ⟨⟨by decide +kernel, by decide +kernel⟩, tm_2 (i := 177) (by decide +kernel), tm_5 (i := 74) (by decide +kernel), tm_5 (i := 75) (by decide +kernel)⟩
theorem lw_p27 : lw_okq (⟨"ShoalClaims$Orders", "findFirstOrder", "(LShoalClaims$Dispute;)Z"⟩, 6) := ⟨⟨by decide +kernel, by decide +kernel⟩, tm_2 (i := 208) (by decide +kernel), tm_5 (i := 94) (by decide +kernel), tm_5 (i := 95) (by decide +kernel)⟩
theorem lw_p28 : lw_okq (⟨"ShoalClaims$Orders", "findBefore", "(LShoalClaims$Dispute;)V"⟩, 6) := ⟨⟨by decide +kernel, by decide +kernel⟩, tm_2 (i := 208) (by decide +kernel), tm_5 (i := 98) (by decide +kernel), tm_5 (i := 99) (by decide +kernel)⟩
theorem lw_p29 : lw_okq (⟨"ShoalClaims$Orders", "costBehind", "(II)I"⟩, 6) := ⟨⟨by decide +kernel, by decide +kernel⟩, tm_2 (i := 208) (by decide +kernel), tm_5 (i := 131) (by decide +kernel), tm_5 (i := 132) (by decide +kernel)⟩
theorem lw_p30 : lw_okq (⟨"ShoalClaimsModel", "four", "(I)V"⟩, 64) := ⟨⟨by decide +kernel, by decide +kernel⟩, tm_5 (i := 234) (by decide +kernel), tm_6 (i := 198) (by decide +kernel), tm_6 (i := 199) (by decide +kernel)⟩
theorem lw_p31 : lw_okq (⟨"ShoalClaimsModel", "is", "(II)Z"⟩, 64) := ⟨⟨by decide +kernel, by decide +kernel⟩, tm_5 (i := 234) (by decide +kernel), tm_6 (i := 213) (by decide +kernel), tm_6 (i := 214) (by decide +kernel)⟩
def lw_privs_2 : List (MethodName × Nat) := [(⟨"ShoalClaims$Run", "drawBelow", "(I)I"⟩, 16), (⟨"ShoalClaims$Run", "splitShoal", "(II)Z"⟩, 16), (⟨"ShoalClaims$Run", "netShoal", "(II)Z"⟩, 16), (⟨"ShoalClaims$Run", "fishOfAnother", "(II)I"⟩, 16), (⟨"ShoalClaims", "runToState", "(III)Z"⟩, 7), (⟨"ShoalClaims$Choices", "lookFromCells", "(LShoalClaims$Sea;III)V"⟩, 7), (⟨"ShoalClaims$Choices", "findGoals", "(LShoalClaims$Sea;II)V"⟩, 7), (⟨"ShoalClaims$Choices", "isWithin", "(LShoalClaims$Sea;II)Z"⟩, 7), (⟨"ShoalClaims$Choices", "firstRowTowards", "(LShoalClaims$Sea;II)I"⟩, 7), (⟨"ShoalClaims$Choices", "addFishTogether", "(LShoalClaims$Sea;)V"⟩, 7), (⟨"ShoalClaims$Choices", "claimableBeside", "(LShoalClaims$Sea;IIIII)I"⟩, 7), (⟨"ShoalClaims$Orders", "findFirstOrder", "(LShoalClaims$Dispute;)Z"⟩, 6), (⟨"ShoalClaims$Orders", "findBefore", "(LShoalClaims$Dispute;)V"⟩, 6), (⟨"ShoalClaims$Orders", "costBehind", "(II)I"⟩, 6), (⟨"ShoalClaimsModel", "four", "(I)V"⟩, 64), (⟨"ShoalClaimsModel", "is", "(II)Z"⟩, 64)]
theorem lw_r2 : ∀ q ∈ lw_privs_2, lw_okq q := List.forall_mem_cons.mpr ⟨lw_p16, List.forall_mem_cons.mpr ⟨lw_p17, List.forall_mem_cons.mpr ⟨lw_p18, List.forall_mem_cons.mpr ⟨lw_p19, List.forall_mem_cons.mpr ⟨lw_p20, List.forall_mem_cons.mpr ⟨lw_p21, List.forall_mem_cons.mpr ⟨lw_p22, List.forall_mem_cons.mpr ⟨lw_p23, List.forall_mem_cons.mpr ⟨lw_p24, List.forall_mem_cons.mpr ⟨lw_p25, List.forall_mem_cons.mpr ⟨lw_p26, List.forall_mem_cons.mpr ⟨lw_p27, List.forall_mem_cons.mpr ⟨lw_p28, List.forall_mem_cons.mpr ⟨lw_p29, List.forall_mem_cons.mpr ⟨lw_p30, List.forall_mem_cons.mpr ⟨lw_p31, fun _ h => absurd h List.not_mem_nil⟩⟩⟩⟩⟩⟩⟩⟩⟩⟩⟩⟩⟩⟩⟩⟩
theorem lw_p32 : lw_okq (⟨"ShoalClaimsModel", "readText", "(I)Z"⟩, 64) := ⟨⟨by decide +kernel, by decide +kernel⟩, tm_5 (i := 234) (by decide +kernel), tm_6 (i := 217) (by decide +kernel), tm_6 (i := 218) (by decide +kernel)⟩
theorem lw_p33 : lw_okq (⟨"ShoalClaimsModel", "token", "()V"⟩, 64) := ⟨⟨by decide +kernel, by decide +kernel⟩, tm_5 (i := 234) (by decide +kernel), tm_6 (i := 221) (by decide +kernel), tm_6 (i := 222) (by decide +kernel)⟩
theorem lw_p34 : lw_okq (⟨"ShoalClaimsModel", "see", "()I"⟩, 64) := ⟨⟨by decide +kernel, by decide +kernel⟩, tm_5 (i := 234) (by decide +kernel), tm_6 (i := 225) (by decide +kernel), tm_6 (i := 226) (by decide +kernel)⟩
theorem lw_p35 : lw_okq (⟨"ShoalClaimsModel", "lines", "(I)Z"⟩, 64) := ⟨⟨by decide +kernel, by decide +kernel⟩, tm_5 (i := 234) (by decide +kernel), tm_6 (i := 229) (by decide +kernel), tm_6 (i := 230) (by decide +kernel)⟩
theorem lw_p36 : lw_okq (⟨"ShoalClaimsModel", "seaLine", "(JI)Z"⟩, 64) := ⟨⟨by decide +kernel, by decide +kernel⟩, tm_5 (i := 234) (by decide +kernel), tm_6 (i := 233) (by decide +kernel), tm_6 (i := 234) (by decide +kernel)⟩
theorem lw_p37 : lw_okq (⟨"ShoalClaimsModel", "fails", "()Z"⟩, 64) := ⟨⟨by decide +kernel, by decide +kernel⟩, tm_5 (i := 234) (by decide +kernel), tm_7 (i := 4) (by decide +kernel), tm_7 (i := 5) (by decide +kernel)⟩
theorem lw_p38 : lw_okq (⟨"ShoalClaimsModel", "full", "(III)V"⟩, 64) := ⟨⟨by decide +kernel, by decide +kernel⟩, tm_5 (i := 234) (by decide +kernel), tm_7 (i := 8) (by decide +kernel), tm_7 (i := 9) (by decide +kernel)⟩
theorem lw_p39 : lw_okq (⟨"ShoalClaimsModel", "later", "(II)V"⟩, 64) := ⟨⟨by decide +kernel, by decide +kernel⟩, tm_5 (i := 234) (by decide +kernel), tm_7 (i := 12) (by decide +kernel), tm_7 (i := 13) (by decide +kernel)⟩
theorem lw_p40 : lw_okq (⟨"ShoalClaimsModel", "shoalLine", "()Z"⟩, 64) := ⟨⟨by decide +kernel, by decide +kernel⟩, tm_5 (i := 234) (by decide +kernel), tm_7 (i := 16) (by decide +kernel), tm_7 (i := 17) (by decide +kernel)⟩
theorem lw_p41 : lw_okq (⟨"ShoalClaimsModel", "takeCell", "(I)Z"⟩, 64) := ⟨⟨by decide +kernel, by decide +kernel⟩, tm_5 (i := 234) (by decide +kernel), tm_7 (i := 20) (by decide +kernel), tm_7 (i := 21) (by decide +kernel)⟩
theorem lw_p42 : lw_okq (⟨"ShoalClaimsModel", "take", "(III)Z"⟩, 64) := ⟨⟨by decide +kernel, by decide +kernel⟩, tm_5 (i := 234) (by decide +kernel), tm_7 (i := 24) (by decide +kernel), tm_7 (i := 25) (by decide +kernel)⟩
theorem lw_p43 : lw_okq (⟨"ShoalClaimsModel", "takeBut", "(IIII)Z"⟩, 64) := ⟨⟨by decide +kernel, by decide +kernel⟩, tm_5 (i := 234) (by decide +kernel), tm_7 (i := 28) (by decide +kernel), tm_7 (i := 29) (by decide +kernel)⟩
theorem lw_p44 : lw_okq (⟨"ShoalClaimsModel", "keep", "(IIII)V"⟩, 64) := ⟨⟨by decide +kernel, by decide +kernel⟩, tm_5 (i := 234) (by decide +kernel), tm_7 (i := 35) (by decide +kernel), tm_7 (i := 36) (by decide +kernel)⟩
theorem lw_p45 : lw_okq (⟨"ShoalClaimsModel", "boatLine", "()Z"⟩, 64) := ⟨⟨by decide +kernel, by decide +kernel⟩, tm_5 (i := 234) (by decide +kernel), tm_7 (i := 39) (by decide +kernel), tm_7 (i := 40) (by decide +kernel)⟩
theorem lw_p46 : lw_okq (⟨"ShoalClaimsModel", "coastLine", "()Z"⟩, 64) := ⟨⟨by decide +kernel, by decide +kernel⟩, tm_5 (i := 234) (by decide +kernel), tm_7 (i := 43) (by decide +kernel), tm_7 (i := 44) (by decide +kernel)⟩
theorem lw_p47 : lw_okq (⟨"ShoalClaimsModel", "dayLine", "(JI)Z"⟩, 64) := ⟨⟨by decide +kernel, by decide +kernel⟩, tm_5 (i := 234) (by decide +kernel), tm_7 (i := 47) (by decide +kernel), tm_7 (i := 48) (by decide +kernel)⟩
def lw_privs_3 : List (MethodName × Nat) := [(⟨"ShoalClaimsModel", "readText", "(I)Z"⟩, 64), (⟨"ShoalClaimsModel", "token", "()V"⟩, 64), (⟨"ShoalClaimsModel", "see", "()I"⟩, 64), (⟨"ShoalClaimsModel", "lines", "(I)Z"⟩, 64), (⟨"ShoalClaimsModel", "seaLine", "(JI)Z"⟩, 64), (⟨"ShoalClaimsModel", "fails", "()Z"⟩, 64), (⟨"ShoalClaimsModel", "full", "(III)V"⟩, 64), (⟨"ShoalClaimsModel", "later", "(II)V"⟩, 64), (⟨"ShoalClaimsModel", "shoalLine", "()Z"⟩, 64), (⟨"ShoalClaimsModel", "takeCell", "(I)Z"⟩, 64), (⟨"ShoalClaimsModel", "take", "(III)Z"⟩, 64), (⟨"ShoalClaimsModel", "takeBut", "(IIII)Z"⟩, 64), (⟨"ShoalClaimsModel", "keep", "(IIII)V"⟩, 64), (⟨"ShoalClaimsModel", "boatLine", "()Z"⟩, 64), (⟨"ShoalClaimsModel", "coastLine", "()Z"⟩, 64), (⟨"ShoalClaimsModel", "dayLine", "(JI)Z"⟩, 64)]
theorem lw_r3 : ∀ q ∈ lw_privs_3, lw_okq q := List.forall_mem_cons.mpr ⟨lw_p32, List.forall_mem_cons.mpr ⟨lw_p33, List.forall_mem_cons.mpr ⟨lw_p34, List.forall_mem_cons.mpr ⟨lw_p35, List.forall_mem_cons.mpr ⟨lw_p36, List.forall_mem_cons.mpr ⟨lw_p37, List.forall_mem_cons.mpr ⟨lw_p38, List.forall_mem_cons.mpr ⟨lw_p39, List.forall_mem_cons.mpr ⟨lw_p40, List.forall_mem_cons.mpr ⟨lw_p41, List.forall_mem_cons.mpr ⟨lw_p42, List.forall_mem_cons.mpr ⟨lw_p43, List.forall_mem_cons.mpr ⟨lw_p44, List.forall_mem_cons.mpr ⟨lw_p45, List.forall_mem_cons.mpr ⟨lw_p46, List.forall_mem_cons.mpr ⟨lw_p47, fun _ h => absurd h List.not_mem_nil⟩⟩⟩⟩⟩⟩⟩⟩⟩⟩⟩⟩⟩⟩⟩⟩
theorem lw_p48 : lw_okq (⟨"ShoalClaimsModel", "disputeLine", "(JI)Z"⟩, 64) := ⟨⟨by decide +kernel, by decide +kernel⟩, tm_5 (i := 234) (by decide +kernel), tm_7 (i := 60) (by decide +kernel), tm_7 (i := 61) (by decide +kernel)⟩
theorem lw_p49 : lw_okq (⟨"ShoalClaimsModel", "isWrong", "(I)Z"⟩, 64) := ⟨⟨by decide +kernel, by decide +kernel⟩, tm_5 (i := 234) (by decide +kernel), tm_7 (i := 66) (by decide +kernel), tm_7 (i := 67) (by decide +kernel)⟩
theorem lw_p50 : lw_okq (⟨"ShoalClaimsModel", "store", "([III)V"⟩, 64) := ⟨⟨by decide +kernel, by decide +kernel⟩, tm_5 (i := 234) (by decide +kernel), tm_7 (i := 70) (by decide +kernel), tm_7 (i := 71) (by decide +kernel)⟩
theorem lw_p51 : lw_okq (⟨"ShoalClaimsModel", "hand", "(I)Z"⟩, 64) := ⟨⟨by decide +kernel, by decide +kernel⟩, tm_5 (i := 234) (by decide +kernel), tm_7 (i := 82) (by decide +kernel), tm_7 (i := 83) (by decide +kernel)⟩
theorem lw_p52 : lw_okq (⟨"ShoalClaimsModel", "of", "(I)I"⟩, 64) := ⟨⟨by decide +kernel, by decide +kernel⟩, tm_5 (i := 234) (by decide +kernel), tm_7 (i := 86) (by decide +kernel), tm_7 (i := 87) (by decide +kernel)⟩
theorem lw_p53 : lw_okq (⟨"ShoalClaimsModel", "isBoat", "(I)Z"⟩, 64) := ⟨⟨by decide +kernel, by decide +kernel⟩, tm_5 (i := 234) (by decide +kernel), tm_7 (i := 98) (by decide +kernel), tm_7 (i := 99) (by decide +kernel)⟩
theorem lw_p54 : lw_okq (⟨"ShoalClaimsModel", "isCell", "(I)Z"⟩, 64) := ⟨⟨by decide +kernel, by decide +kernel⟩, tm_5 (i := 234) (by decide +kernel), tm_7 (i := 109) (by decide +kernel), tm_7 (i := 110) (by decide +kernel)⟩
theorem lw_p55 : lw_okq (⟨"ShoalClaimsModel", "costOf", "(II)I"⟩, 64) := ⟨⟨by decide +kernel, by decide +kernel⟩, tm_5 (i := 234) (by decide +kernel), tm_7 (i := 113) (by decide +kernel), tm_7 (i := 114) (by decide +kernel)⟩
theorem lw_p56 : lw_okq (⟨"ShoalClaimsModel", "stepsTo", "(III)I"⟩, 64) := ⟨⟨by decide +kernel, by decide +kernel⟩, tm_5 (i := 234) (by decide +kernel), tm_7 (i := 117) (by decide +kernel), tm_7 (i := 118) (by decide +kernel)⟩
theorem lw_p57 : lw_okq (⟨"ShoalClaimsModel", "hearersOf", "(I)I"⟩, 64) := ⟨⟨by decide +kernel, by decide +kernel⟩, tm_5 (i := 234) (by decide +kernel), tm_7 (i := 125) (by decide +kernel), tm_7 (i := 126) (by decide +kernel)⟩
theorem lw_p58 : lw_okq (⟨"ShoalClaimsModel", "hearsIt", "(II)Z"⟩, 64) := ⟨⟨by decide +kernel, by decide +kernel⟩, tm_5 (i := 234) (by decide +kernel), tm_7 (i := 129) (by decide +kernel), tm_7 (i := 130) (by decide +kernel)⟩
theorem lw_p59 : lw_okq (⟨"ShoalClaimsModel", "passOn", "(I)V"⟩, 64) := ⟨⟨by decide +kernel, by decide +kernel⟩, tm_5 (i := 234) (by decide +kernel), tm_7 (i := 133) (by decide +kernel), tm_7 (i := 134) (by decide +kernel)⟩
theorem lw_p60 : lw_okq (⟨"ShoalClaimsModel", "hasDay", "(I)Z"⟩, 64) := ⟨⟨by decide +kernel, by decide +kernel⟩, tm_5 (i := 234) (by decide +kernel), tm_7 (i := 148) (by decide +kernel), tm_7 (i := 149) (by decide +kernel)⟩
theorem lw_p61 : lw_okq (⟨"ShoalClaimsModel", "deeds", "()I"⟩, 64) := ⟨⟨by decide +kernel, by decide +kernel⟩, tm_5 (i := 234) (by decide +kernel), tm_7 (i := 152) (by decide +kernel), tm_7 (i := 153) (by decide +kernel)⟩
theorem lw_p62 : lw_okq (⟨"ShoalClaimsModel", "deedOf", "(II)I"⟩, 64) := ⟨⟨by decide +kernel, by decide +kernel⟩, tm_5 (i := 234) (by decide +kernel), tm_7 (i := 156) (by decide +kernel), tm_7 (i := 157) (by decide +kernel)⟩
theorem lw_p63 : lw_okq (⟨"ShoalClaimsModel", "layDay", "(II)Z"⟩, 64) := ⟨⟨by decide +kernel, by decide +kernel⟩, tm_5 (i := 234) (by decide +kernel), tm_7 (i := 164) (by decide +kernel), tm_7 (i := 165) (by decide +kernel)⟩
def lw_privs_4 : List (MethodName × Nat) := [(⟨"ShoalClaimsModel", "disputeLine", "(JI)Z"⟩, 64), (⟨"ShoalClaimsModel", "isWrong", "(I)Z"⟩, 64), (⟨"ShoalClaimsModel", "store", "([III)V"⟩, 64), (⟨"ShoalClaimsModel", "hand", "(I)Z"⟩, 64), (⟨"ShoalClaimsModel", "of", "(I)I"⟩, 64), (⟨"ShoalClaimsModel", "isBoat", "(I)Z"⟩, 64), (⟨"ShoalClaimsModel", "isCell", "(I)Z"⟩, 64), (⟨"ShoalClaimsModel", "costOf", "(II)I"⟩, 64), (⟨"ShoalClaimsModel", "stepsTo", "(III)I"⟩, 64), (⟨"ShoalClaimsModel", "hearersOf", "(I)I"⟩, 64), (⟨"ShoalClaimsModel", "hearsIt", "(II)Z"⟩, 64), (⟨"ShoalClaimsModel", "passOn", "(I)V"⟩, 64), (⟨"ShoalClaimsModel", "hasDay", "(I)Z"⟩, 64), (⟨"ShoalClaimsModel", "deeds", "()I"⟩, 64), (⟨"ShoalClaimsModel", "deedOf", "(II)I"⟩, 64), (⟨"ShoalClaimsModel", "layDay", "(II)Z"⟩, 64)]
theorem lw_r4 : ∀ q ∈ lw_privs_4, lw_okq q := List.forall_mem_cons.mpr ⟨lw_p48, List.forall_mem_cons.mpr ⟨lw_p49, List.forall_mem_cons.mpr ⟨lw_p50, List.forall_mem_cons.mpr ⟨lw_p51, List.forall_mem_cons.mpr ⟨lw_p52, List.forall_mem_cons.mpr ⟨lw_p53, List.forall_mem_cons.mpr ⟨lw_p54, List.forall_mem_cons.mpr ⟨lw_p55, List.forall_mem_cons.mpr ⟨lw_p56, List.forall_mem_cons.mpr ⟨lw_p57, List.forall_mem_cons.mpr ⟨lw_p58, List.forall_mem_cons.mpr ⟨lw_p59, List.forall_mem_cons.mpr ⟨lw_p60, List.forall_mem_cons.mpr ⟨lw_p61, List.forall_mem_cons.mpr ⟨lw_p62, List.forall_mem_cons.mpr ⟨lw_p63, fun _ h => absurd h List.not_mem_nil⟩⟩⟩⟩⟩⟩⟩⟩⟩⟩⟩⟩⟩⟩⟩⟩
theorem lw_p64 : lw_okq (⟨"ShoalClaimsModel", "play", "(I)I"⟩, 64) := ⟨⟨by decide +kernel, by decide +kernel⟩, tm_5 (i := 234) (by decide +kernel), tm_7 (i := 168) (by decide +kernel), tm_7 (i := 169) (by decide +kernel)⟩
theorem lw_p65 : lw_okq (⟨"ShoalClaimsModel", "begin", "()V"⟩, 64) := ⟨⟨by decide +kernel, by decide +kernel⟩, tm_5 (i := 234) (by decide +kernel), tm_7 (i := 172) (by decide +kernel), tm_7 (i := 173) (by decide +kernel)⟩
theorem lw_p66 : lw_okq (⟨"ShoalClaimsModel", "does", "(I)Z"⟩, 64) := ⟨⟨by decide +kernel, by decide +kernel⟩, tm_5 (i := 234) (by decide +kernel), tm_7 (i := 176) (by decide +kernel), tm_7 (i := 177) (by decide +kernel)⟩
theorem lw_p67 : lw_okq (⟨"ShoalClaimsModel", "beside", "(II)I"⟩, 64) := ⟨⟨by decide +kernel, by decide +kernel⟩, tm_5 (i := 234) (by decide +kernel), tm_7 (i := 180) (by decide +kernel), tm_7 (i := 181) (by decide +kernel)⟩
theorem lw_p68 : lw_okq (⟨"ShoalClaimsModel", "splits", "(II)Z"⟩, 64) := ⟨⟨by decide +kernel, by decide +kernel⟩, tm_5 (i := 234) (by decide +kernel), tm_7 (i := 184) (by decide +kernel), tm_7 (i := 185) (by decide +kernel)⟩
theorem lw_p69 : lw_okq (⟨"ShoalClaimsModel", "isThere", "(I)Z"⟩, 64) := ⟨⟨by decide +kernel, by decide +kernel⟩, tm_5 (i := 234) (by decide +kernel), tm_7 (i := 188) (by decide +kernel), tm_7 (i := 189) (by decide +kernel)⟩
theorem lw_p70 : lw_okq (⟨"ShoalClaimsModel", "holderNow", "(I)I"⟩, 64) := ⟨⟨by decide +kernel, by decide +kernel⟩, tm_5 (i := 234) (by decide +kernel), tm_7 (i := 192) (by decide +kernel), tm_7 (i := 193) (by decide +kernel)⟩
theorem lw_p71 : lw_okq (⟨"ShoalClaimsModel", "nets", "(III)Z"⟩, 64) := ⟨⟨by decide +kernel, by decide +kernel⟩, tm_5 (i := 234) (by decide +kernel), tm_7 (i := 196) (by decide +kernel), tm_7 (i := 197) (by decide +kernel)⟩
theorem lw_p72 : lw_okq (⟨"ShoalClaimsModel", "claim", "(IIII)V"⟩, 64) := ⟨⟨by decide +kernel, by decide +kernel⟩, tm_5 (i := 234) (by decide +kernel), tm_7 (i := 200) (by decide +kernel), tm_7 (i := 201) (by decide +kernel)⟩
theorem lw_p73 : lw_okq (⟨"ShoalClaimsModel", "heardNow", "(I)I"⟩, 64) := ⟨⟨by decide +kernel, by decide +kernel⟩, tm_5 (i := 234) (by decide +kernel), tm_7 (i := 204) (by decide +kernel), tm_7 (i := 205) (by decide +kernel)⟩
theorem lw_p74 : lw_okq (⟨"ShoalClaimsModel", "draw", "(I)I"⟩, 64) := ⟨⟨by decide +kernel, by decide +kernel⟩, tm_5 (i := 234) (by decide +kernel), tm_7 (i := 208) (by decide +kernel), tm_7 (i := 209) (by decide +kernel)⟩
theorem lw_p75 : lw_okq (⟨"ShoalClaimsModel", "lackOf", "(IIII)I"⟩, 64) := ⟨⟨by decide +kernel, by decide +kernel⟩, tm_5 (i := 234) (by decide +kernel), tm_7 (i := 213) (by decide +kernel), tm_7 (i := 214) (by decide +kernel)⟩
theorem lw_p76 : lw_okq (⟨"ShoalClaimsModel", "lawOf", "(II)I"⟩, 64) := ⟨⟨by decide +kernel, by decide +kernel⟩, tm_5 (i := 234) (by decide +kernel), tm_7 (i := 217) (by decide +kernel), tm_7 (i := 218) (by decide +kernel)⟩
theorem lw_p77 : lw_okq (⟨"ShoalClaimsModel", "driftAll", "()V"⟩, 64) := ⟨⟨by decide +kernel, by decide +kernel⟩, tm_5 (i := 234) (by decide +kernel), tm_7 (i := 221) (by decide +kernel), tm_7 (i := 222) (by decide +kernel)⟩
theorem lw_p78 : lw_okq (⟨"ShoalClaimsModel", "layState", "(III)Z"⟩, 64) := ⟨⟨by decide +kernel, by decide +kernel⟩, tm_5 (i := 234) (by decide +kernel), tm_7 (i := 229) (by decide +kernel), tm_7 (i := 230) (by decide +kernel)⟩
theorem lw_p79 : lw_okq (⟨"ShoalClaimsModel", "aloneOf", "(I)I"⟩, 64) := ⟨⟨by decide +kernel, by decide +kernel⟩, tm_5 (i := 234) (by decide +kernel), tm_7 (i := 237) (by decide +kernel), tm_7 (i := 238) (by decide +kernel)⟩
def lw_privs_5 : List (MethodName × Nat) := [(⟨"ShoalClaimsModel", "play", "(I)I"⟩, 64), (⟨"ShoalClaimsModel", "begin", "()V"⟩, 64), (⟨"ShoalClaimsModel", "does", "(I)Z"⟩, 64), (⟨"ShoalClaimsModel", "beside", "(II)I"⟩, 64), (⟨"ShoalClaimsModel", "splits", "(II)Z"⟩, 64), (⟨"ShoalClaimsModel", "isThere", "(I)Z"⟩, 64), (⟨"ShoalClaimsModel", "holderNow", "(I)I"⟩, 64), (⟨"ShoalClaimsModel", "nets", "(III)Z"⟩, 64), (⟨"ShoalClaimsModel", "claim", "(IIII)V"⟩, 64), (⟨"ShoalClaimsModel", "heardNow", "(I)I"⟩, 64), (⟨"ShoalClaimsModel", "draw", "(I)I"⟩, 64), (⟨"ShoalClaimsModel", "lackOf", "(IIII)I"⟩, 64), (⟨"ShoalClaimsModel", "lawOf", "(II)I"⟩, 64), (⟨"ShoalClaimsModel", "driftAll", "()V"⟩, 64), (⟨"ShoalClaimsModel", "layState", "(III)Z"⟩, 64), (⟨"ShoalClaimsModel", "aloneOf", "(I)I"⟩, 64)]
theorem lw_r5 : ∀ q ∈ lw_privs_5, lw_okq q := List.forall_mem_cons.mpr ⟨lw_p64, List.forall_mem_cons.mpr ⟨lw_p65, List.forall_mem_cons.mpr ⟨lw_p66, List.forall_mem_cons.mpr ⟨lw_p67, List.forall_mem_cons.mpr ⟨lw_p68, List.forall_mem_cons.mpr ⟨lw_p69, List.forall_mem_cons.mpr ⟨lw_p70, List.forall_mem_cons.mpr ⟨lw_p71, List.forall_mem_cons.mpr ⟨lw_p72, List.forall_mem_cons.mpr ⟨lw_p73, List.forall_mem_cons.mpr ⟨lw_p74, List.forall_mem_cons.mpr ⟨lw_p75, List.forall_mem_cons.mpr ⟨lw_p76, List.forall_mem_cons.mpr ⟨lw_p77, List.forall_mem_cons.mpr ⟨lw_p78, List.forall_mem_cons.mpr ⟨lw_p79, fun _ h => absurd h List.not_mem_nil⟩⟩⟩⟩⟩⟩⟩⟩⟩⟩⟩⟩⟩⟩⟩⟩
theorem lw_p80 : lw_okq (⟨"ShoalClaimsModel", "holdsOf", "(I)I"⟩, 64) := ⟨⟨by decide +kernel, by decide +kernel⟩, tm_5 (i := 234) (by decide +kernel), tm_8 (i := 1) (by decide +kernel), tm_8 (i := 2) (by decide +kernel)⟩
theorem lw_p81 : lw_okq (⟨"ShoalClaimsModel", "layTold", "(I)Z"⟩, 64) := ⟨⟨by decide +kernel, by decide +kernel⟩, tm_5 (i := 234) (by decide +kernel), tm_8 (i := 21) (by decide +kernel), tm_8 (i := 22) (by decide +kernel)⟩
theorem lw_p82 : lw_okq (⟨"ShoalClaimsModel", "findSoon", "(II)I"⟩, 64) := ⟨⟨by decide +kernel, by decide +kernel⟩, tm_5 (i := 234) (by decide +kernel), tm_8 (i := 25) (by decide +kernel), tm_8 (i := 26) (by decide +kernel)⟩
theorem lw_p83 : lw_okq (⟨"ShoalClaimsModel", "couldFrom", "(III)Z"⟩, 64) := ⟨⟨by decide +kernel, by decide +kernel⟩, tm_5 (i := 234) (by decide +kernel), tm_8 (i := 29) (by decide +kernel), tm_8 (i := 30) (by decide +kernel)⟩
theorem lw_p84 : lw_okq (⟨"ShoalClaimsModel", "moved", "(II)I"⟩, 64) := ⟨⟨by decide +kernel, by decide +kernel⟩, tm_5 (i := 234) (by decide +kernel), tm_8 (i := 33) (by decide +kernel), tm_8 (i := 34) (by decide +kernel)⟩
theorem lw_p85 : lw_okq (⟨"ShoalClaimsModel", "shoalsFrom", "(I)I"⟩, 64) := ⟨⟨by decide +kernel, by decide +kernel⟩, tm_5 (i := 234) (by decide +kernel), tm_8 (i := 41) (by decide +kernel), tm_8 (i := 42) (by decide +kernel)⟩
theorem lw_p86 : lw_okq (⟨"ShoalClaimsModel", "fishOf", "(I)I"⟩, 64) := ⟨⟨by decide +kernel, by decide +kernel⟩, tm_5 (i := 234) (by decide +kernel), tm_8 (i := 45) (by decide +kernel), tm_8 (i := 46) (by decide +kernel)⟩
theorem lw_p87 : lw_okq (⟨"ShoalClaimsModel", "handDispute", "(I)Z"⟩, 64) := ⟨⟨by decide +kernel, by decide +kernel⟩, tm_5 (i := 234) (by decide +kernel), tm_8 (i := 57) (by decide +kernel), tm_8 (i := 58) (by decide +kernel)⟩
theorem lw_p88 : lw_okq (⟨"ShoalClaimsModel", "ofDispute", "(I)I"⟩, 64) := ⟨⟨by decide +kernel, by decide +kernel⟩, tm_5 (i := 234) (by decide +kernel), tm_8 (i := 61) (by decide +kernel), tm_8 (i := 62) (by decide +kernel)⟩
theorem lw_p89 : lw_okq (⟨"ShoalClaimsModel", "layAheads", "(I)V"⟩, 64) := ⟨⟨by decide +kernel, by decide +kernel⟩, tm_5 (i := 234) (by decide +kernel), tm_8 (i := 65) (by decide +kernel), tm_8 (i := 66) (by decide +kernel)⟩
theorem lw_p90 : lw_okq (⟨"ShoalClaimsModel", "layFirst", "()Z"⟩, 64) := ⟨⟨by decide +kernel, by decide +kernel⟩, tm_5 (i := 234) (by decide +kernel), tm_8 (i := 69) (by decide +kernel), tm_8 (i := 70) (by decide +kernel)⟩
theorem lw_p91 : lw_okq (⟨"ShoalClaimsModel", "findOrders", "()I"⟩, 64) := ⟨⟨by decide +kernel, by decide +kernel⟩, tm_5 (i := 234) (by decide +kernel), tm_8 (i := 73) (by decide +kernel), tm_8 (i := 74) (by decide +kernel)⟩
theorem lw_p92 : lw_okq (⟨"ShoalClaimsModel", "sureCouples", "()I"⟩, 64) := ⟨⟨by decide +kernel, by decide +kernel⟩, tm_5 (i := 234) (by decide +kernel), tm_8 (i := 77) (by decide +kernel), tm_8 (i := 78) (by decide +kernel)⟩
theorem lw_p93 : lw_okq (⟨"ShoalClaimsModel", "findHours", "()Z"⟩, 64) := ⟨⟨by decide +kernel, by decide +kernel⟩, tm_5 (i := 234) (by decide +kernel), tm_8 (i := 81) (by decide +kernel), tm_8 (i := 82) (by decide +kernel)⟩
theorem lw_p94 : lw_okq (⟨"ShoalClaimsModel", "firstOnes", "()I"⟩, 64) := ⟨⟨by decide +kernel, by decide +kernel⟩, tm_5 (i := 234) (by decide +kernel), tm_8 (i := 88) (by decide +kernel), tm_8 (i := 89) (by decide +kernel)⟩
theorem lw_p95 : lw_okq (⟨"ShoalClaimsModel", "fewestAheads", "()I"⟩, 64) := ⟨⟨by decide +kernel, by decide +kernel⟩, tm_5 (i := 234) (by decide +kernel), tm_8 (i := 92) (by decide +kernel), tm_8 (i := 93) (by decide +kernel)⟩
def lw_privs_6 : List (MethodName × Nat) := [(⟨"ShoalClaimsModel", "holdsOf", "(I)I"⟩, 64), (⟨"ShoalClaimsModel", "layTold", "(I)Z"⟩, 64), (⟨"ShoalClaimsModel", "findSoon", "(II)I"⟩, 64), (⟨"ShoalClaimsModel", "couldFrom", "(III)Z"⟩, 64), (⟨"ShoalClaimsModel", "moved", "(II)I"⟩, 64), (⟨"ShoalClaimsModel", "shoalsFrom", "(I)I"⟩, 64), (⟨"ShoalClaimsModel", "fishOf", "(I)I"⟩, 64), (⟨"ShoalClaimsModel", "handDispute", "(I)Z"⟩, 64), (⟨"ShoalClaimsModel", "ofDispute", "(I)I"⟩, 64), (⟨"ShoalClaimsModel", "layAheads", "(I)V"⟩, 64), (⟨"ShoalClaimsModel", "layFirst", "()Z"⟩, 64), (⟨"ShoalClaimsModel", "findOrders", "()I"⟩, 64), (⟨"ShoalClaimsModel", "sureCouples", "()I"⟩, 64), (⟨"ShoalClaimsModel", "findHours", "()Z"⟩, 64), (⟨"ShoalClaimsModel", "firstOnes", "()I"⟩, 64), (⟨"ShoalClaimsModel", "fewestAheads", "()I"⟩, 64)]
theorem lw_r6 : ∀ q ∈ lw_privs_6, lw_okq q := List.forall_mem_cons.mpr ⟨lw_p80, List.forall_mem_cons.mpr ⟨lw_p81, List.forall_mem_cons.mpr ⟨lw_p82, List.forall_mem_cons.mpr ⟨lw_p83, List.forall_mem_cons.mpr ⟨lw_p84, List.forall_mem_cons.mpr ⟨lw_p85, List.forall_mem_cons.mpr ⟨lw_p86, List.forall_mem_cons.mpr ⟨lw_p87, List.forall_mem_cons.mpr ⟨lw_p88, List.forall_mem_cons.mpr ⟨lw_p89, List.forall_mem_cons.mpr ⟨lw_p90, List.forall_mem_cons.mpr ⟨lw_p91, List.forall_mem_cons.mpr ⟨lw_p92, List.forall_mem_cons.mpr ⟨lw_p93, List.forall_mem_cons.mpr ⟨lw_p94, List.forall_mem_cons.mpr ⟨lw_p95, fun _ h => absurd h List.not_mem_nil⟩⟩⟩⟩⟩⟩⟩⟩⟩⟩⟩⟩⟩⟩⟩⟩
theorem lw_p96 : lw_okq (⟨"ShoalClaimsModel", "luck", "()I"⟩, 64) := ⟨⟨by decide +kernel, by decide +kernel⟩, tm_5 (i := 234) (by decide +kernel), tm_8 (i := 124) (by decide +kernel), tm_8 (i := 125) (by decide +kernel)⟩
theorem lw_p97 : lw_okq (⟨"ShoalClaimsModel", "richestCoast", "()I"⟩, 64) := ⟨⟨by decide +kernel, by decide +kernel⟩, tm_5 (i := 234) (by decide +kernel), tm_8 (i := 128) (by decide +kernel), tm_8 (i := 129) (by decide +kernel)⟩
theorem lw_p98 : lw_okq (⟨"ShoalClaimsModel", "richest", "()I"⟩, 64) := ⟨⟨by decide +kernel, by decide +kernel⟩, tm_5 (i := 234) (by decide +kernel), tm_8 (i := 132) (by decide +kernel), tm_8 (i := 133) (by decide +kernel)⟩
theorem lw_p99 : lw_okq (⟨"ShoalClaimsModel", "copyAll", "(II)V"⟩, 64) := ⟨⟨by decide +kernel, by decide +kernel⟩, tm_5 (i := 234) (by decide +kernel), tm_8 (i := 148) (by decide +kernel), tm_8 (i := 149) (by decide +kernel)⟩
def lw_privs_7 : List (MethodName × Nat) := [(⟨"ShoalClaimsModel", "luck", "()I"⟩, 64), (⟨"ShoalClaimsModel", "richestCoast", "()I"⟩, 64), (⟨"ShoalClaimsModel", "richest", "()I"⟩, 64), (⟨"ShoalClaimsModel", "copyAll", "(II)V"⟩, 64)]
theorem lw_r7 : ∀ q ∈ lw_privs_7, lw_okq q := List.forall_mem_cons.mpr ⟨lw_p96, List.forall_mem_cons.mpr ⟨lw_p97, List.forall_mem_cons.mpr ⟨lw_p98, List.forall_mem_cons.mpr ⟨lw_p99, fun _ h => absurd h List.not_mem_nil⟩⟩⟩⟩
def lw_privs : List (MethodName × Nat) := lw_privs_1 ++ (lw_privs_2 ++ (lw_privs_3 ++ (lw_privs_4 ++ (lw_privs_5 ++ (lw_privs_6 ++ (lw_privs_7))))))
def lw_tbl : List Cond := k2_sels lw_privs ++ tables_1
theorem lw_privs_ok : ∀ q ∈ lw_privs, lw_okq q := by
  show ∀ q ∈ lw_privs_1 ++ (lw_privs_2 ++ (lw_privs_3 ++ (lw_privs_4 ++ (lw_privs_5 ++ (lw_privs_6 ++ (lw_privs_7)))))), lw_okq q
  exact List.forall_mem_append.mpr ⟨lw_r1, List.forall_mem_append.mpr ⟨lw_r2, List.forall_mem_append.mpr ⟨lw_r3, List.forall_mem_append.mpr ⟨lw_r4, List.forall_mem_append.mpr ⟨lw_r5, List.forall_mem_append.mpr ⟨lw_r6, lw_r7⟩⟩⟩⟩⟩⟩
-- ===== end of PART A; then your names; then what follows =====
end
