variable {η : zRn}
/-! Math.abs, max, min: steps of their own -/
def zo_abs (as : zAS) : Option zAS := match as.2.2.1 with
  | a :: st => if (decide (a.1 = 0) && decide ((st.map (fun a => if a.1 = 1 then 2 else 1)).sum ≤ 8)) = true then (match ziv as.1 a with
      | some q => some (as.1 ++ [if 0 ≤ q.1 then q else if q.2 ≤ 0 then zfit (-q.2, -q.1) else zfit (0, max (-q.1) q.2)], as.2.1, (0, as.1.length, 0) :: st, as.2.2.2)
      | none => none) else none
  | [] => none
def zo_max (as : zAS) : Option zAS := match as.2.2.1 with
  | b :: a :: st => if (decide (a.1 = 0) && decide (b.1 = 0) && decide ((st.map (fun a => if a.1 = 1 then 2 else 1)).sum ≤ 8)) = true then (match ziv as.1 a, ziv as.1 b with
      | some q, some r => some (as.1 ++ [(max q.1 r.1, max q.2 r.2)], as.2.1, (0, as.1.length, 0) :: st, as.2.2.2)
      | _, _ => none) else none
  | _ => none
def zo_min (as : zAS) : Option zAS := match as.2.2.1 with
  | b :: a :: st => if (decide (a.1 = 0) && decide (b.1 = 0) && decide ((st.map (fun a => if a.1 = 1 then 2 else 1)).sum ≤ 8)) = true then (match ziv as.1 a, ziv as.1 b with
      | some q, some r => some (as.1 ++ [(min q.1 r.1, min q.2 r.2)], as.2.1, (0, as.1.length, 0) :: st, as.2.2.2)
      | _, _ => none) else none
  | _ => none
theorem z_cats {σ : List Int} {st : List zAV} : ((st.map (zvo η σ)).map (fun v => v.category)).sum = (st.map (fun a => if a.1 = 1 then 2 else 1)).sum := by
  rw [List.map_map]
  congr 1
  apply List.map_congr_left
  intro a _
  simp only [Function.comp]
  unfold zvo
  split
  · rename_i e
    have := z_cat (η := η) a.1 (zev σ a)
    rw [e] at this ⊢
    simpa using this
  · rename_i e
    exact z_cat1 _ e
theorem z_absb {x : Int32} {q : zIV} (h1 : q.1 ≤ x.toInt) (h2 : x.toInt ≤ q.2) : (if 0 ≤ q.1 then q else if q.2 ≤ 0 then zfit (-q.2, -q.1) else zfit (0, max (-q.1) q.2)).1 ≤ (if 0 ≤ x then x else 0 - x).toInt ∧ (if 0 ≤ x then x else 0 - x).toInt ≤ (if 0 ≤ q.1 then q else if q.2 ≤ 0 then zfit (-q.2, -q.1) else zfit (0, max (-q.1) q.2)).2 := by
  have e0 : (0 : Int32).toInt = 0 := rfl
  have hsub : -2147483648 ≤ -x.toInt → -x.toInt ≤ 2147483647 → (0 - x).toInt = -x.toInt := by
    intro a b
    rw [z_sub (by rw [e0]; omega) (by rw [e0]; omega), e0]
    omega
  by_cases hx : 0 ≤ x
  · have hx2 := Int32.le_iff_toInt_le.mp hx
    rw [e0] at hx2
    rw [if_pos hx]
    split
    · exact ⟨h1, h2⟩
    · split
      · exact z_fit (v := x.toInt) (by simp only; omega) (by simp only; omega) (fun _ _ => rfl)
      · exact z_fit (v := x.toInt) (by simp only; omega) (by simp only; omega) (fun _ _ => rfl)
  · have hx2 : ¬ 0 ≤ x.toInt := fun g => hx (Int32.le_iff_toInt_le.mpr (by rw [e0]; exact g))
    rw [if_neg hx]
    split
    · omega
    · split
      · exact z_fit (v := -x.toInt) (by simp only; omega) (by simp only; omega) hsub
      · exact z_fit (v := -x.toInt) (by simp only; omega) (by simp only; omega) hsub
section ZMA
variable {kds : List zKD} {cl : List vw_C} {TW : List Cond} {KP : zKPt} {tyf : (Nat → ClassId) → List (ClassId × FieldType)} {l : Launch} {own : String} {cc : ByteArray} {nL fr lo pc : Nat} {eff : List (Nat × Nat × Nat)}
theorem z_spabs {idx : Nat} (hd : decode cc pc = .ok (.invokestatic idx, 3)) (h1 : Cond.methodLink own idx Lib.Math.abs.name ∈ TW) (h2 : Cond.static Lib.Math.abs.name ∈ TW) (h3 : Cond.initialized "java/lang/Math" ∈ TW) (h4 : Cond.code Lib.Math.abs.name Lib.Math.abs.code 1 (some .int) ∈ TW) (h5 : 1 ≤ fr) (h6 : 21 ≤ lo) : zSpok kds cl TW KP tyf l own cc nL fr lo eff (pc, 3, zo_abs) := by
  intro η D cy L Θ h0 p e R s m args below meth c Q σA as as' hexec hb hml hown hts hK hKa hT hnd hfr hlo hf k
  simp only at hf
  unfold zo_abs at hf
  split at hf
  · rename_i a st hs
    split at hf
    · rename_i hc
      simp only [Bool.and_eq_true, decide_eq_true_eq] at hc
      split at hf
      · rename_i q hq
        cases hf
        refine zgo_push k (fun σ h H locs ls g => ?_)
        have gS := g.2.2.2.1
        rw [hs] at gS ⊢
        obtain ⟨x, ex, hx⟩ := z_ci (gS a List.mem_cons_self) hc.1
        have b := z_iv g.1 hq
        rw [← hx] at b
        have b2 := z_absb b.1 b.2
        refine ⟨fun q hq => gS q (List.mem_cons_of_mem _ hq), (if 0 ≤ x then x else 0 - x).toInt, b2.1, b2.2, ⟨z_lo _, z_hi _⟩, fun w => ?_⟩
        rw [z_d32] at w
        rw [List.map_cons, ex]
        exact va_mabs hexec hb (by rw [hml]; exact g.2.2.1.1.symm) hown (hts _ h1) (hts _ h2) (hts _ h3) (hts _ h4) (by omega) (by rw [z_cats]; omega) (Nat.zero_le _) (Nat.zero_le _) hd w
      · cases hf
    · cases hf
  · cases hf
theorem z_spmax {idx : Nat} (hd : decode cc pc = .ok (.invokestatic idx, 3)) (h1 : Cond.methodLink own idx Lib.Math.max.name ∈ TW) (h2 : Cond.static Lib.Math.max.name ∈ TW) (h3 : Cond.initialized "java/lang/Math" ∈ TW) (h4 : Cond.code Lib.Math.max.name Lib.Math.max.code 2 (some .int) ∈ TW) (h5 : 1 ≤ fr) (h6 : 21 ≤ lo) : zSpok kds cl TW KP tyf l own cc nL fr lo eff (pc, 3, zo_max) := by
  intro η D cy L Θ h0 p e R s m args below meth c Q σA as as' hexec hb hml hown hts hK hKa hT hnd hfr hlo hf k
  simp only at hf
  unfold zo_max at hf
  split at hf
  · rename_i b a st hs
    split at hf
    · rename_i hc
      simp only [Bool.and_eq_true, decide_eq_true_eq] at hc
      split at hf
      · rename_i q r hq hr
        cases hf
        refine zgo_push k (fun σ h H locs ls g => ?_)
        have gS := g.2.2.2.1
        rw [hs] at gS ⊢
        obtain ⟨x, ex, hx⟩ := z_ci (gS a (List.mem_cons_of_mem _ List.mem_cons_self)) hc.1.1
        obtain ⟨y, ey, hy⟩ := z_ci (gS b List.mem_cons_self) hc.1.2
        have b1 := z_iv g.1 hq
        have b2 := z_iv g.1 hr
        have key : (if x < y then y else x).toInt = max x.toInt y.toInt := by
          by_cases hlt : x < y
          · have := Int32.lt_iff_toInt_lt.mp hlt
            rw [if_pos hlt]; omega
          · have : ¬ x.toInt < y.toInt := fun g => hlt (Int32.lt_iff_toInt_lt.mpr g)
            rw [if_neg hlt]; omega
        refine ⟨fun q hq => gS q (List.mem_cons_of_mem _ (List.mem_cons_of_mem _ hq)), (if x < y then y else x).toInt, by rw [key]; simp only; omega, by rw [key]; simp only; omega, ⟨z_lo _, z_hi _⟩, fun w => ?_⟩
        rw [z_d32] at w
        rw [List.map_cons, List.map_cons, ex, ey]
        exact va_mmax hexec hb (by rw [hml]; exact g.2.2.1.1.symm) hown (hts _ h1) (hts _ h2) (hts _ h3) (hts _ h4) (by omega) (by rw [z_cats]; omega) (Nat.zero_le _) (Nat.zero_le _) hd w
      · cases hf
    · cases hf
  · cases hf
theorem z_spmin {idx : Nat} (hd : decode cc pc = .ok (.invokestatic idx, 3)) (h1 : Cond.methodLink own idx Lib.Math.min.name ∈ TW) (h2 : Cond.static Lib.Math.min.name ∈ TW) (h3 : Cond.initialized "java/lang/Math" ∈ TW) (h4 : Cond.code Lib.Math.min.name Lib.Math.min.code 2 (some .int) ∈ TW) (h5 : 1 ≤ fr) (h6 : 21 ≤ lo) : zSpok kds cl TW KP tyf l own cc nL fr lo eff (pc, 3, zo_min) := by
  intro η D cy L Θ h0 p e R s m args below meth c Q σA as as' hexec hb hml hown hts hK hKa hT hnd hfr hlo hf k
  simp only at hf
  unfold zo_min at hf
  split at hf
  · rename_i b a st hs
    split at hf
    · rename_i hc
      simp only [Bool.and_eq_true, decide_eq_true_eq] at hc
      split at hf
      · rename_i q r hq hr
        cases hf
        refine zgo_push k (fun σ h H locs ls g => ?_)
        have gS := g.2.2.2.1
        rw [hs] at gS ⊢
        obtain ⟨x, ex, hx⟩ := z_ci (gS a (List.mem_cons_of_mem _ List.mem_cons_self)) hc.1.1
        obtain ⟨y, ey, hy⟩ := z_ci (gS b List.mem_cons_self) hc.1.2
        have b1 := z_iv g.1 hq
        have b2 := z_iv g.1 hr
        have key : (if y < x then y else x).toInt = min x.toInt y.toInt := by
          by_cases hlt : y < x
          · have := Int32.lt_iff_toInt_lt.mp hlt
            rw [if_pos hlt]; omega
          · have : ¬ y.toInt < x.toInt := fun g => hlt (Int32.lt_iff_toInt_lt.mpr g)
            rw [if_neg hlt]; omega
        refine ⟨fun q hq => gS q (List.mem_cons_of_mem _ (List.mem_cons_of_mem _ hq)), (if y < x then y else x).toInt, by rw [key]; simp only; omega, by rw [key]; simp only; omega, ⟨z_lo _, z_hi _⟩, fun w => ?_⟩
        rw [z_d32] at w
        rw [List.map_cons, List.map_cons, ex, ey]
        exact va_mmin hexec hb (by rw [hml]; exact g.2.2.1.1.symm) hown (hts _ h1) (hts _ h2) (hts _ h3) (hts _ h4) (by omega) (by rw [z_cats]; omega) (Nat.zero_le _) (Nat.zero_le _) hd w
      · cases hf
    · cases hf
  · cases hf
end ZMA
