/-! count and fault tell the same -/
theorem RR_count {F : Prop} {m n : Nat} {x : Int} {h g : yH} (R : RR F h g) (hL : lnI h) (hm : h 4 1 ≤ 600) : ∃ v h2 g2, f_X11_count n [1, x] h = some (v, h2) ∧ f_X12_count m [35, x] g = some (v, g2) ∧ RR F h2 g2 ∧ ∀ a j, h2 a j = h a j := by
  have hP := R.1
  have gP := R.2.1
  have e1 : f_X11_count n [1, x] h = _ := e_X11_count
  have e2 : f_X12_count m [35, x] g = _ := e_X12_count
  by_cases w : 0 ≤ x ∧ x ≤ 2
  · rw [if_neg (by omega), if_pos (by omega), xg_pos (hP.p (by decide)), xg_pos (hP.p (by decide)), xg_pos (by omega)] at e1
    rw [in_t w, xb_some, if_neg (by decide), xg_pos (by rw [zup_ne (by omega)]; exact gP.2.2.2.2.1), xg_pos (by omega), zup_ne (by omega)] at e2
    have := R.2.2.1.2.2.1 x.toNat (by omega)
    rw [show 0 + 6 = 6 from rfl, show 3 * 0 + x.toNat = x.toNat by omega] at this
    rw [← this] at e2
    exact ⟨_, _, _, e1, e2, R.c0 hL hm, fun _ _ => rfl⟩
  · rw [in_f w, xb_some, if_pos rfl] at e2
    by_cases w2 : x < 0
    · rw [if_pos w2] at e1
      exact ⟨_, _, _, e1, e2, R.c0 hL hm, fun _ _ => rfl⟩
    · rw [if_neg w2, if_neg (by omega)] at e1
      exact ⟨_, _, _, e1, e2, R.c0 hL hm, fun _ _ => rfl⟩
theorem RR_fault {F : Prop} {m n : Nat} {x : Int} {h g : yH} (R : RR F h g) (hL : lnI h) (hm : h 4 1 ≤ 600) : ∃ v h2 g2, f_X11_fault n [1, x] h = some (v, h2) ∧ f_X12_fault m [35, x] g = some (v, g2) ∧ RR F h2 g2 ∧ ∀ a j, h2 a j = h a j := by
  have hP := R.1
  have gP := R.2.1
  have e1 : f_X11_fault n [1, x] h = _ := e_X11_fault
  have e2 : f_X12_fault m [35, x] g = _ := e_X12_fault
  by_cases w : x = 0
  · rw [if_pos w, xg_pos (hP.p (by decide))] at e1
    rw [if_pos w, xg_pos gP.2.2.1, ← show h 3 5 = g 2 0 from R.2.2.1.2.2.2.1] at e2
    exact ⟨_, _, _, e1, e2, R.c0 hL hm, fun _ _ => rfl⟩
  · by_cases w2 : x = 1
    · rw [if_neg w, if_pos w2, xg_pos (hP.p (by decide))] at e1
      rw [if_neg w, if_pos w2, xg_pos gP.2.2.2.1, ← show h 3 6 = g 3 0 from R.2.2.1.2.2.2.2.1] at e2
      exact ⟨_, _, _, e1, e2, R.c0 hL hm, fun _ _ => rfl⟩
    · rw [if_neg w, if_neg w2] at e1 e2
      exact ⟨_, _, _, e1, e2, R.c0 hL hm, fun _ _ => rfl⟩
