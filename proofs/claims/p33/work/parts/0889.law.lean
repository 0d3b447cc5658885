variable {η : zRn}
def cTl (ov : List zOV) : Option zAV := match zlook ov 63 1 0 with
  | some q => if q.2.2 = 0 then (match zlook ov 28 q.2.1 0 with
    | some p => if p.2.2 = 0 then zlook ov 1 p.2.1 1 else none
    | none => none) else none
  | none => none
theorem cTl_ok {Θ : Nat → Option Nat} {h : Nat → Nat → Int} {σ : List Int} {ov : List zOV} {a : Nat} {v : zAV} (hV : zgv Θ h σ ov) (hs : σ.getD 1 0 = (a : Int)) (hj : cTl ov = some v) : cLn h a = zev σ v := by
  unfold cTl at hj
  split at hj
  · rename_i q hq
    split at hj
    · rename_i h0
      split at hj
      · rename_i p hp
        split at hj
        · rename_i h1
          have g1 := (hV _ (z_look hq)).2.2.2.2
          have g2 := (hV _ (z_look hp)).2.2.2.2
          have g3 := (hV _ (z_look hj)).2.2.2.2
          simp only at g1 g2 g3
          rw [hs, Int.toNat_natCast] at g1
          have e1 : h a 0 = σ.getD q.2.1 0 := by
            rw [g1]
            unfold zev
            rw [h0, Int.add_zero]
          have e2 : h (σ.getD q.2.1 0).toNat 0 = σ.getD p.2.1 0 := by
            rw [g2]
            unfold zev
            rw [h1, Int.add_zero]
          unfold cLn
          rw [e1, e2, g3]
        · cases hj
      · cases hj
    · cases hj
  · cases hj
theorem zgv_app {Θ : Nat → Option Nat} {h : Nat → Nat → Int} {σ : List Int} {o1 o2 : List zOV} (h1 : zgv Θ h σ o1) (h2 : zgv Θ h σ o2) : zgv Θ h σ (o1 ++ o2) := fun o ho => (List.mem_append.mp ho).elim (h1 o) (h2 o)
section LKP
variable {D : va_G} {cy : Nat → ClassId} {M : List Nat} {Ξ : Nat → Option Nat} {g g' : Nat → Nat → Int} {H : Heap} {r : Nat}
theorem rKs {eff : List (Nat × Nat × Nat)} {t : Nat} (hG : zH η zkdm D vwCl cy M Ξ g H) (hr : Ξ r = some 35) (hX : ∀ a k j, Ξ a = some k → zinE eff k j j = false → g' a j = g a j) (he : effr eff = true) (ht : zinE eff 1 t t = false) : rSz g' r t = rSz g r t := by
  have e := hX r 35 2 hr (effr_at he (by decide))
  unfold rSz
  rw [e]
  exact hX _ 1 _ (rP2 hG hr).2 ht
def effj (eff : List (Nat × Nat × Nat)) (t : Nat) : Bool := !(zinE eff 4 (3 * t) (3 * t)) && !(zinE eff 5 (100 * t) (100 * t)) && !(zinE eff 5 (100 * t + 4) (100 * t + 4)) && !(zinE eff 5 (100 * t + 50) (100 * t + 50)) && !(zinE eff 5 (100 * t + 54) (100 * t + 54))
theorem rKj {eff : List (Nat × Nat × Nat)} {t : Nat} (hG : zH η zkdm D vwCl cy M Ξ g H) (hr : Ξ r = some 35) (hX : ∀ a k j, Ξ a = some k → zinE eff k j j = false → g' a j = g a j) (he : effr eff = true) (ht : effj eff t = true) (hj : lJb g r t) : lJb g' r t := by
  unfold effj at ht
  simp only [Bool.and_eq_true, Bool.not_eq_true'] at ht
  obtain ⟨⟨⟨⟨h2, h3⟩, h4⟩, h5⟩, h6⟩ := ht
  have e5 := hX r 35 5 hr (effr_at he (by decide))
  have e6 := hX r 35 6 hr (effr_at he (by decide))
  unfold lJb rMn rSe at hj ⊢
  rw [e5, e6, hX _ 4 _ (rP5 hG hr).2 h2, hX _ 5 _ (rP6 hG hr).2 h3, hX _ 5 _ (rP6 hG hr).2 h4, hX _ 5 _ (rP6 hG hr).2 h5, hX _ 5 _ (rP6 hG hr).2 h6]
  exact hj
end LKP
/-- the names of the two receivers in a frame -/
theorem fb_zH {kds : List zKD} {D : va_G} {cl : List vw_C} {cy : Nat → ClassId} {L : List Nat} {Θ : Nat → Option Nat} {h : Nat → Nat → Int} {av : List Value} : FrameBlind (va_Pc av (fun U => zH η kds D cl cy L Θ h U.heap ∧ KW D cy U)) := fun _ U g mk q => ⟨q.1, q.2.1, q.2.2.call⟩
theorem fb_img {D : va_G} {cy : Nat → ClassId} {L : List Nat} {Θ : Nat → Option Nat} {h : Nat → Nat → Int} {av : List Value} {sz base : Nat} {tb adK adV : Nat → Nat} {fv : Option Nat} : FrameBlind (va_Pc av (fun U => U.heap.size = sz ∧ zH η zkds D vwCl cy L Θ h U.heap ∧ KW D cy U ∧ zS0 base tb adK adV fv U)) := fun _ U g mk q => ⟨q.1, q.2.1, q.2.2.1, q.2.2.2.1.call, q.2.2.2.2.same rfl rfl⟩
