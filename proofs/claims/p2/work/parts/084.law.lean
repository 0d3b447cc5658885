/-! what the start gives of statics and Strings -/
def lwG : Cond := Jvm.Cond.and given_1 narrow_1
set_option maxRecDepth 100000 in
theorem lwf_a : ∀ i : Fin 4, Cond.arrayOf (.static RX4 (zTn i.1) "[I") .int ∈ flatC lwG ∧ Cond.eq (.length (.static RX4 (zTn i.1) "[I")) (.int (Int32.ofNat (zTv i.1).length)) ∈ flatC lwG := by decide +kernel
set_option maxRecDepth 100000 in
theorem lwf_e : ∀ i : Fin 4, ∀ j : Fin 75, j.1 < (zTv i.1).length → Cond.eq (.elem (.static RX4 (zTn i.1) "[I") (.int (Int32.ofNat j.1))) (.int (Int32.ofInt ((zTv i.1).getD j.1 0))) ∈ flatC lwG := by decide +kernel
def zTm15 (i : Nat) : Term := .string RX4 (zSi.getD i 0)
set_option maxRecDepth 100000 in
theorem lwf_s : ∀ i : Fin 15, Cond.exactly (zTm15 i.1) "java/lang/String" ∈ flatC lwG ∧ Cond.eq (.field (zTm15 i.1) "java/lang/String" "coder" "B") (.int 0) ∈ flatC lwG ∧ Cond.arrayOf (.field (zTm15 i.1) "java/lang/String" "value" "[B") .byte ∈ flatC lwG ∧ Cond.eq (.length (.field (zTm15 i.1) "java/lang/String" "value" "[B")) (.int (Int32.ofNat (zSl.getD i.1 0))) ∈ flatC lwG := by decide +kernel
set_option maxRecDepth 100000 in
theorem lwf_t : ∀ i : Fin 15, ∀ j : Fin 5, j.1 < zSl.getD i.1 0 → Cond.eq (.elem (.field (zTm15 i.1) "java/lang/String" "value" "[B") (.int (Int32.ofNat j.1))) (.int ((zSb.getD i.1 []).getD j.1 0)) ∈ flatC lwG := by decide +kernel
set_option maxRecDepth 100000 in
theorem lwf_n : ∀ i j : Fin 15, i.1 < j.1 → Cond.not (Cond.eq (zTm15 i.1) (zTm15 j.1)) ∈ flatC lwG := by decide +kernel
set_option maxRecDepth 100000 in
theorem lwf_z : Cond.eq (.static RJ0 "COMPACT_STRINGS" "Z") (.int 1) ∈ flatC lwG ∧ Cond.isRef (.static RJ3 "SIOOBE_FORMATTER" "Ljava/util/function/BiFunction;") ∈ flatC lwG := by decide +kernel
set_option maxRecDepth 100000 in
theorem lwf_l : ∀ i : Fin 4, Cond.laysStatic RX4 (zTn i.1) "[I" ∈ lw_tbl := by decide +kernel
set_option maxRecDepth 100000 in
theorem lwf_r : ∀ i : Fin 15, Cond.stringRef RX4 (zSi.getD i.1 0) (zSt.getD i.1 "") ∈ lw_tbl := by decide +kernel
set_option maxRecDepth 100000 in
theorem lwf_m : Cond.initialized RX4 ∈ lw_tbl ∧ Cond.laysStatic RJ0 "COMPACT_STRINGS" "Z" ∈ lw_tbl ∧ Cond.initialized RJ0 ∈ lw_tbl ∧ Cond.laysStatic RJ3 "SIOOBE_FORMATTER" "Ljava/util/function/BiFunction;" ∈ lw_tbl ∧ Cond.initialized RJ3 ∈ lw_tbl := by decide +kernel
theorem lw_stat {b : Nat} {s : State} (hgv : (Jvm.Cond.and given_1 narrow_1).before #[Value.ref b] s = true) (hts : ∀ w ∈ lw_tbl, w.before #[Value.ref b] s = true) : ∃ (tb adK adV : Nat → Nat) (fv : Option Nat), zS0 s.heap.size tb adK adV fv s := by
  have hs : ∀ c ∈ flatC lwG, c.before #[Value.ref b] s = true := flat_of_before _ hgv
  have hA : ∀ a : Nat, a < s.heap.size → ¬ (fun q : Nat => s.heap.size ≤ q) a := fun a ha => Nat.not_le.mpr ha
  have h0 : ∀ i : Nat, ∃ t : Nat, i < 4 → (Term.static RX4 (zTn i) "[I").eval #[Value.ref b] s none [] s = some (.ref t) ∧ va_T .int t (zTv i).length (fun j => .int (Int32.ofInt ((zTv i).getD j 0))) (fun q => s.heap.size ≤ q) s s.heap := by
    intro i
    by_cases hi : i < 4
    · have hl75 : (zTv i).length ≤ 75 := by
        rcases (show i = 0 ∨ i = 1 ∨ i = 2 ∨ i = 3 by omega) with rfl | rfl | rfl | rfl <;> decide
      obtain ⟨t, h1, h2⟩ := va_Tof (f := fun j => .int (Int32.ofInt ((zTv i).getD j 0))) (A := fun q => s.heap.size ≤ q) (N := (zTv i).length) (by omega) (hs _ (lwf_a ⟨i, hi⟩).1) (va_eqt (hs _ (lwf_a ⟨i, hi⟩).2)) (fun j hj => va_eqt (hs _ (lwf_e ⟨i, hi⟩ ⟨j, by omega⟩ hj))) hA
      exact ⟨t, fun _ => ⟨h1, h2⟩⟩
    · exact ⟨0, fun h => absurd h hi⟩
  obtain ⟨tb, htb⟩ := Classical.axiomOfChoice h0
  obtain ⟨adK, adV, hS, hE⟩ := vk_Sof (args := #[Value.ref b]) (s := s) (N := 15) (tm := zTm15) (len := zSl) (byt := zSb) (A := fun q => s.heap.size ≤ q) (fun i hi => by
      have : ∀ i : Fin 15, zSl.getD i.1 0 < 2 ^ 31 := by decide
      exact this ⟨i, hi⟩) (fun i hi => hs _ (lwf_s ⟨i, hi⟩).1) (fun i hi => hs _ (lwf_s ⟨i, hi⟩).2.1) (fun i hi => hs _ (lwf_s ⟨i, hi⟩).2.2.1) (fun i hi => hs _ (lwf_s ⟨i, hi⟩).2.2.2)
      (fun i hi j hj => hs _ (lwf_t ⟨i, hi⟩ ⟨j, by
        have : ∀ i : Fin 15, zSl.getD i.1 0 ≤ 5 := by decide
        have := this ⟨i, hi⟩
        simp only at this
        omega⟩ hj))
      (fun i j hi hj hij => by
        rcases Nat.lt_or_ge i j with h | h
        · exact Or.inl (hs _ (lwf_n ⟨i, hi⟩ ⟨j, hj⟩ h))
        · exact Or.inr (hs _ (lwf_n ⟨j, hj⟩ ⟨i, hi⟩ (show j < i by omega)))) hA
  obtain ⟨m1, m2, m3, m4, m5⟩ := lwf_m
  have hfv : ∃ fv : Option Nat, (Term.static RJ3 "SIOOBE_FORMATTER" "Ljava/util/function/BiFunction;").eval #[Value.ref b] s none [] s = some (va_rf fv) := by
    have := hs _ lwf_z.2
    cases hv : (Term.static RJ3 "SIOOBE_FORMATTER" "Ljava/util/function/BiFunction;").eval #[Value.ref b] s none [] s with
    | none => simp [Cond.before, Cond.holds, Cond.value, hv] at this
    | some w =>
      cases w with
      | ref a => exact ⟨some a, rfl⟩
      | null => exact ⟨none, rfl⟩
      | _ => simp [Cond.before, Cond.holds, Cond.value, hv] at this
  obtain ⟨fv, hfv⟩ := hfv
  refine ⟨tb, adK, adV, fv, fun i hi => ⟨va_Zof (hts _ (lwf_l ⟨i, hi⟩)) (hts _ m1) (htb i hi).1 hA, (htb i hi).2⟩, hS, fun i hi => vk_R.of (hts _ (lwf_r ⟨i, hi⟩)) (hE i hi), va_Zof (hts _ m2) (hts _ m3) (va_eqi (hs _ lwf_z.1)) hA, va_Zof (hts _ m4) (hts _ m5) hfv hA⟩
