/-! the class: a sea's pointers; its words' -/
def cSp (b : Nat) (h : yH) : Prop := h b 5 = (b : Int) + 1 ∧ h b 7 = (b : Int) + 2 ∧ h b 8 = (b : Int) + 3 ∧ h b 9 = (b : Int) + 4 ∧ h b 11 = (b : Int) + 5 ∧ h b 12 = (b : Int) + 6 ∧ h b 13 = (b : Int) + 7
theorem cSp.fr {b : Nat} {h h2 : yH} (hp : cSp b h) (e : ∀ j, j = 5 ∨ j = 7 ∨ j = 8 ∨ j = 9 ∨ j = 11 ∨ j = 12 ∨ j = 13 → h2 b j = h b j) : cSp b h2 := by
  obtain ⟨a1, a2, a3, a4, a5, a6, a7⟩ := hp
  exact ⟨by rw [e _ (by omega)]; exact a1, by rw [e _ (by omega)]; exact a2, by rw [e _ (by omega)]; exact a3, by rw [e _ (by omega)]; exact a4, by rw [e _ (by omega)]; exact a5, by rw [e _ (by omega)]; exact a6, by rw [e _ (by omega)]; exact a7⟩
/-- pointers of the class's words and of their sea -/
def cPw (h : yH) : Prop := h 1 4 = 150 ∧ h 150 3 = 160 ∧ cSp 160 h
theorem cPw.fr {h h2 : yH} (hw : cPw h) (e : ∀ a j, (a = 1 ∧ j = 4) ∨ a = 150 ∨ a = 160 → h2 a j = h a j) : cPw h2 := by
  obtain ⟨w1, w2, w3⟩ := hw
  exact ⟨by rw [e _ _ (by omega)]; exact w1, by rw [e _ _ (by omega)]; exact w2, w3.fr (fun j _ => e _ _ (by omega))⟩
/-- what is told stays -/
def k7 (g g2 : yH) : Prop := ∀ a j, 1 ≤ a → a ≤ 7 → g2 a j = g a j
theorem frW_feed {n : Nat} {x1 x2 x3 x4 x5 v : Int} {h h2 : yH} (hn : 6 ≤ n) (hP : cP h) (hm : 0 ≤ h 4 1 ∧ h 4 1 ≤ 600) (e : f_X11_feed n [1, x1, x2, x3, x4, x5] h = some (v, h2)) (hw : cPw h) : cPw h2 := by
  obtain ⟨N, eN⟩ : ∃ N : Nat, h 4 1 = (N : Int) := ⟨(h 4 1).toNat, by omega⟩
  obtain ⟨v', h', e', -, r⟩ := feedC_r (n := n) (x1 := x1) (x2 := x2) (x3 := x3) (x4 := x4) (x5 := x5) hn hP eN (by omega)
  have ee := Option.some.inj (e.symm.trans e')
  have e2 : h2 = h' := congrArg Prod.snd ee
  rw [e2]
  rcases r with ⟨-, -, r⟩ | ⟨-, -, -, r⟩
  · rw [r]; exact hw
  · exact hw.fr (fun a j w => by rw [r a j (by omega), if_neg (by omega)])
theorem frW_end {n : Nat} {x v : Int} {h h2 : yH} (hP : cP h) (hm : 0 ≤ h 4 1 ∧ h 4 1 ≤ 600) (e : f_X11_end n [1, x] h = some (v, h2)) (hw : cPw h) : cPw h2 := by
  obtain ⟨v', h', e', r⟩ := endC_r (n := n) (x := x) hP hm
  have e2 : h2 = h' := congrArg Prod.snd (Option.some.inj (e.symm.trans e'))
  rw [e2]
  rcases r with ⟨-, -, r⟩ | ⟨-, -, r⟩
  · rw [r]; exact hw
  · exact hw.fr (fun a j w => by rw [r, zup_ne (by omega)])
theorem frW_text {n : Nat} {sort at_ v : Int} {h h2 : yH} (hn : 2800 ≤ n) (hP : cP h) (hm : 0 ≤ h 4 1 ∧ h 4 1 ≤ 600) (h6 : ∀ j, j < 3 → 0 ≤ h 6 j ∧ h 6 j ≤ 2) (e : f_X11_text n [1, sort, at_] h = some (v, h2)) (hw : cPw h) : cPw h2 := by
  obtain ⟨v', h', e', r⟩ := textC_e (u := fun i => yari 7 (h 5 i) 255) (N := (h 4 1).toNat) (n := n) (sort := sort) (at_ := at_) (t0 := tI sort.toNat) hn ⟨by omega, by omega, fun _ _ => rfl, hP⟩ h6 (fun _ _ => rfl)
  have e2 : h2 = h' := congrArg Prod.snd (Option.some.inj (e.symm.trans e'))
  rw [e2]
  exact hw.fr (fun a j w => r.2.2.1 a j (by omega) (by omega) (by omega))
