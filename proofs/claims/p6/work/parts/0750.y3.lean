variable {η : zRn}
/-! Math.abs, negation, constants, longs -/
def yAbs (P : yP) : yP := fun loc st h => match st with
  | a :: st' => a.1 = 0 ∧ st'.length ≤ 4 ∧ -2147483648 < a.2 ∧ P loc ((0, if 0 ≤ a.2 then a.2 else -a.2) :: st') h
  | _ => False
def yNeg (P : yP) : yP := fun loc st h => match st with
  | a :: st' => a.1 = 0 ∧ -2147483648 < a.2 ∧ P loc ((0, -a.2) :: st') h
  | _ => False
section YAB
variable {kds : List zKD} {D : va_G} {cl : List vw_C} {cy : Nat → ClassId} {L : List Nat} {Θ : Nat → Option Nat} {nL : Nat}
variable {p : Program} {l : Launch} {e : Env} {R : Room} {s : State} {m : MethodId} {args : Array Value} {below : List Frame} {meth : Method} {c : Code} {Q : State → Prop}
variable {cc : ByteArray} {pc : Nat} {tys : List (ClassId × FieldType)} {own : String} {TW : List Cond} {KP : zKPt} {tyf : (Nat → ClassId) → List (ClassId × FieldType)} {ret : Option FieldType} {fr lo : Nat} {Qr : yQt} {P : yP}
theorem yr_abs (Z : yCz η kds D cl cy L Θ nL p l e R s m args below meth c Q cc tys own TW KP tyf ret fr lo Qr) {idx : Nat} (hd : decode cc pc = .ok (.invokestatic idx, 3)) (h1 : Cond.methodLink own idx Lib.Math.abs.name ∈ TW) (h2 : Cond.static Lib.Math.abs.name ∈ TW) (h3 : Cond.initialized "java/lang/Math" ∈ TW) (h4 : Cond.code Lib.Math.abs.name Lib.Math.abs.code 1 (some .int) ∈ TW) (h5 : 1 ≤ fr) (h6 : 21 ≤ lo) (k : yGo η kds D cl cy L Θ nL p l e R s m args below meth c Q (pc + 3) (P)) : yGo η kds D cl cy L Θ nL p l e R s m args below meth c Q (pc) (yAbs P) := by
  intro loc st h H locs ls hp g
  unfold yAbs at hp
  split at hp
  · rename_i a st'
    obtain ⟨q1, q3, qb, q4⟩ := hp
    obtain ⟨⟨hexec, hb, hml, hts, hown, hKa, hTy, hnd⟩, -, -, -, -, ⟨hfr, hlo⟩, -⟩ := Z
    obtain ⟨x, ex, hx⟩ := y_int (η := η) (g.2.2.1 a List.mem_cons_self) q1
    have key : (if 0 ≤ x then x else 0 - x).toInt = if 0 ≤ a.2 then a.2 else -a.2 := by
      have z0 : (0 : Int32).toInt = 0 := rfl
      rw [← hx] at qb ⊢
      by_cases hlt : 0 ≤ x
      · have := Int32.le_iff_toInt_le.mp hlt
        rw [z0] at this
        rw [if_pos hlt, if_pos this]
      · have : ¬ 0 ≤ x.toInt := fun g => hlt (Int32.le_iff_toInt_le.mpr (by rw [z0]; exact g))
        rw [if_neg hlt, if_neg this, Int32.toInt_sub, z0]
        have h9 := z_hi x
        rw [Int.bmod_eq_of_le (by omega) (by omega)]
        omega
    have c8 := y_cat8 (η := η) (st := st')
    have w := yr_un (t := 0) g (by rw [← key]; exact y_i0 Θ _) q4 k
    rw [y_vi key] at w
    rw [List.map_cons, ex]
    exact va_mabs hexec hb (by rw [hml]; exact g.2.1.1.symm) hown (hts _ h1) (hts _ h2) (hts _ h3) (hts _ h4) (by omega) (by omega) (Nat.zero_le _) (Nat.zero_le _) hd w
  · exact hp.elim
theorem yr_neg (X : hCx D cl cy L p s m args c cc nL tys TW own) (hd : decode cc pc = .ok (.ineg, 1)) (k : yGo η kds D cl cy L Θ nL p l e R s m args below meth c Q (pc + 1) (P)) : yGo η kds D cl cy L Θ nL p l e R s m args below meth c Q (pc) (yNeg P) := by
  intro loc st h H locs ls hp g
  unfold yNeg at hp
  split at hp
  · rename_i a st'
    obtain ⟨q1, qb, q4⟩ := hp
    obtain ⟨x, ex, hx⟩ := y_int (η := η) (g.2.2.1 a List.mem_cons_self) q1
    have key : (-x).toInt = -a.2 := by
      have h9 := z_hi x
      have h8 := z_lo x
      rw [← hx] at qb ⊢
      rw [Int32.toInt_neg]
      exact Int.bmod_eq_of_le (by omega) (by omega)
    have w := yr_un (t := 0) g (by rw [← key]; exact y_i0 Θ _) q4 k
    rw [y_vi key] at w
    rw [List.map_cons, ex]
    exact lv_ineg X.1 X.2.1 hd w
  · exact hp.elim
theorem yr_ldcw (X : hCx D cl cy L p s m args c cc nL tys TW own) {i : Nat} {n : Int} (hd : decode cc pc = .ok (.ldc_w i, 3)) (hc : Cond.constant own i (Int32.ofInt n) ∈ TW) (hn : -2147483648 ≤ n ∧ n ≤ 2147483647) (k : yGo η kds D cl cy L Θ nL p l e R s m args below meth c Q (pc + 3) (P)) : yGo η kds D cl cy L Θ nL p l e R s m args below meth c Q (pc) (yCst 0 n P) :=
  yr_cst (y_i hn.1 hn.2) (fun _ _ _ _ w => lv_ldcw X.1 X.2.1 X.2.2.2.2.1 (X.2.2.2.1 _ hc) hd w) k
/-! sums and products that may wrap -/
end YAB
def xAbs (K : yX) : yX := fun loc st h => match st with
  | a :: st => cond (Nat.beq a.1 0) (cond (Nat.ble st.length 4) (xg (-2147483648 < a.2) (K loc ((0, if 0 ≤ a.2 then a.2 else -a.2) :: st) h)) none) none
  | _ => none
theorem x_abs {Qr : yQt} {t : Nat} {K : yX} : ∀ loc st h, xw Qr t (xAbs K) loc st h → yAbs (xw Qr t K) loc st h := by
  intro loc st h ⟨v, h2, e, q⟩
  unfold xAbs at e
  unfold yAbs
  split at e
  · rename_i a st
    obtain ⟨e1, e⟩ := xt1 e
    obtain ⟨e2, e⟩ := xt_s e
    obtain ⟨e3, e⟩ := xg_s e
    exact ⟨e1, Nat.le_of_ble_eq_true e2, e3, v, h2, e, q⟩
  · cases e
def xNeg (K : yX) : yX := fun loc st h => match st with
  | a :: st => cond (Nat.beq a.1 0) (xg (-2147483648 < a.2) (K loc ((0, -a.2) :: st) h)) none
  | _ => none
theorem x_neg {Qr : yQt} {t : Nat} {K : yX} : ∀ loc st h, xw Qr t (xNeg K) loc st h → yNeg (xw Qr t K) loc st h := by
  intro loc st h ⟨v, h2, e, q⟩
  unfold xNeg at e
  unfold yNeg
  split at e
  · rename_i a st
    obtain ⟨e1, e⟩ := xt1 e
    obtain ⟨e3, e⟩ := xg_s e
    exact ⟨e1, e3, v, h2, e, q⟩
  · cases e
/-! a reference that may be null is none: its tag is named -/
def xNm (t0 : Nat) (K : yX) : yX := fun loc st h => match st with
  | a :: st => cond (Nat.beq a.1 t0) (xg (0 ≤ a.2) (K loc ((t0 + 100000, a.2) :: st) h)) none
  | _ => none
theorem x_nm {t0 : Nat} (ht : 2 ≤ t0 ∧ t0 < 100002) {Θ : Nat → Option Nat} {Qr : yQt} {t : Nat} {K : yX} : ∀ loc st h, xw Qr t (xNm t0 K) loc st h → yNn Θ (xw Qr t K) loc st h := by
  intro loc st h ⟨v, h2, e, q⟩
  unfold xNm at e
  unfold yNn
  split at e
  · rename_i a st
    obtain ⟨a1, a2⟩ := a
    obtain ⟨e1, e⟩ := xt1 e
    obtain ⟨e2, e⟩ := xg_s e
    simp only at e1
    subst e1
    exact ⟨ht, e2, fun _ => ⟨v, h2, e, q⟩⟩
  · cases e
