variable {η : zRn}
/-! arraycopy -/
def zrow (h : Nat → Nat → Int) (a : Nat) (r : Nat → Int) : Nat → Nat → Int := fun b => if b = a then r else h b
theorem zrow_at (h : Nat → Nat → Int) (a : Nat) (r : Nat → Int) : zrow h a r a = r := by unfold zrow; rw [if_pos rfl]
theorem zrow_ne {h : Nat → Nat → Int} {a b : Nat} {r : Nat → Int} (e : ¬ b = a) : zrow h a r b = h b := by unfold zrow; rw [if_neg e]
theorem zH_row {kds : List zKD} {D : va_G} {cl : List vw_C} {cy : Nat → ClassId} {L : List Nat} {Θ : Nat → Option Nat} {A : Nat → Prop} {h : Nat → Nat → Int} {H H1 : Heap} {a k q0 : Nat} {K : zKD} {r : Nat → Int} (g : zH η kds D cl cy L Θ h H) (hD : va_D A ([] ++ va_pl L (zF η kds cy Θ h))) (h1 : Θ a = some k) (h2 : kds[k]? = some K) (h3 : K.1 ≤ 2)
    (hx : ∀ j, j < K.2.2.1 → zok Θ (zty K j).1 (r j) ∧ (zty K j).2.1 ≤ r j ∧ r j ≤ (zty K j).2.2) (hq : ([] ++ va_pl L (zF η kds cy Θ h))[q0]? = some (η.1 a, zE η cy K (h a)))
    (hP : va_P D cl (([] ++ va_pl L (zF η kds cy Θ h)).set q0 (η.1 a, zE η cy K r)) H1) : zH η kds D cl cy L Θ (zrow h a r) H1 := by
  obtain ⟨K', e1, e2, -⟩ := g.2.2 a k h1
  cases h2.symm.trans e1
  obtain ⟨e3, e4⟩ := e2 h3
  refine ⟨?_, g.2.1, fun b kb hb => ?_⟩
  · rw [va_pl_set hD e3 (by rw [hq, zF_at e4 h1 h2])] at hP
    rw [zpl_congr (g := va_up (zF η kds cy Θ h) (η.1 a) (zE η cy K r))]
    · exact hP
    · intro b hbL
      by_cases hb : b = η.1 a
      · subst hb
        rw [va_up_self, zF_at e4 h1 h2, zrow_at]
      · rw [va_up_ne _ _ hb]
        unfold zF zf
        rw [zrow_ne (fun e => hb (by rw [← e]; exact (g.2.1 b hbL).symm))]
  · obtain ⟨Kb, f1, f2, f3⟩ := g.2.2 b kb hb
    refine ⟨Kb, f1, f2, fun i hi => ?_⟩
    by_cases e : b = a
    · subst e
      cases h1.symm.trans hb
      cases h2.symm.trans f1
      rw [zrow_at]
      exact hx i hi
    · rw [zrow_ne e]
      exact f3 i hi
/-- one type each, and the one within the other -/
def zone (K0 K1 : zKD) : Bool := match K0.2.2.2, K1.2.2.2 with
  | [t0], [t1] => decide (t0.1 = 0) && decide (t1.1 = 0) && decide (t1.2.1 ≤ t0.2.1) && decide (t0.2.2 ≤ t1.2.2)
  | _, _ => false
theorem z_one {K0 K1 : zKD} (h : zone K0 K1 = true) (i j : Nat) : (zty K0 i).1 = 0 ∧ (zty K1 j).1 = 0 ∧ (zty K1 j).2.1 ≤ (zty K0 i).2.1 ∧ (zty K0 i).2.2 ≤ (zty K1 j).2.2 := by
  unfold zone at h
  split at h
  · rename_i t0 t1 h0 h1
    simp only [Bool.and_eq_true, decide_eq_true_eq] at h
    unfold zty
    rw [h0, h1]
    simp only [List.length_cons, List.length_nil, Nat.zero_add, Nat.mod_one, List.getD_cons_zero]
    exact ⟨h.1.1.1, h.1.1.2, h.1.2, h.2⟩
  · cases h
theorem z_fb8 : ∀ k : Fin 256, fits .byte (.int (Int32.ofInt ((k.val : Int) - 128))) = true := by decide +kernel
theorem z_fitb {x : Int} (h1 : -128 ≤ x) (h2 : x ≤ 127) : fits .byte (.int (Int32.ofInt x)) = true := by
  have := z_fb8 ⟨(x + 128).toNat, by omega⟩
  simp only at this
  rw [show ((x + 128).toNat : Int) - 128 = x by omega] at this
  exact this
section ZCP
variable {kds : List zKD} {cl : List vw_C} {tyf : (Nat → ClassId) → List (ClassId × FieldType)} {l : Launch} {cc : ByteArray} {nL fr lo : Nat} {eff : List (Nat × Nat × Nat)} {own : String} {KP : zKPt} {TW : List Cond}
end ZCP
