variable {η : zRn}
/-! the heap: slots of cells -/
def zup (h : Nat → Nat → Int) (a j : Nat) (x : Int) : Nat → Nat → Int := fun b i => if b = a ∧ i = j then x else h b i
theorem zup_at (h : Nat → Nat → Int) (a j : Nat) (x : Int) : zup h a j x a j = x := by simp [zup]
theorem zup_ne {h : Nat → Nat → Int} {a j b i : Nat} {x : Int} (e : ¬ (b = a ∧ i = j)) : zup h a j x b i = h b i := by unfold zup; rw [if_neg e]
theorem zup_row {h : Nat → Nat → Int} {a j b : Nat} {x : Int} (e : b ≠ a) : zup h a j x b = h b := by
  funext i
  exact zup_ne (fun q => e q.1)
theorem zf_at {kds : List zKD} {cy : Nat → ClassId} {Θ : Nat → Option Nat} {h : Nat → Nat → Int} {a k : Nat} {K : zKD} (h1 : Θ a = some k) (h2 : kds[k]? = some K) : zf η kds cy Θ h a = zE η cy K (h a) := by
  unfold zf
  rw [h1]
  simp [List.getD_eq_getElem?_getD, h2]
theorem zF_at {kds : List zKD} {cy : Nat → ClassId} {Θ : Nat → Option Nat} {h : Nat → Nat → Int} {a k : Nat} {K : zKD} (h0 : η.2 (η.1 a) = a) (h1 : Θ a = some k) (h2 : kds[k]? = some K) : zF η kds cy Θ h (η.1 a) = zE η cy K (h a) := by
  unfold zF
  rw [h0]
  exact zf_at h1 h2
theorem zpl_congr {L : List Nat} {f g : Nat → va_E} (h : ∀ q ∈ L, f q = g q) : va_pl L f = va_pl L g := by
  unfold va_pl
  exact List.map_congr_left fun q hq => by rw [h q hq]
theorem zE_o {cy : Nat → ClassId} {K : zKD} {g : Nat → Int} (h : K.1 = 0) : zE η cy K g = .inr (K.2.1, (List.range K.2.2.1).map (fun j => zdec η (zty K j).1 (g j))) := by
  unfold zE; rw [h]; rfl
theorem zE_i {cy : Nat → ClassId} {K : zKD} {g : Nat → Int} (h : K.1 = 1) : zE η cy K g = .inl (cy K.2.1, K.2.2.1, .inl (fun j => Int32.ofInt (g j))) := by
  unfold zE; rw [h]; rfl
theorem zE_q {cy : Nat → ClassId} {K : zKD} {g : Nat → Int} (h : K.1 = 2) : zE η cy K g = .inl (cy K.2.1, K.2.2.1, .inr (.inr (.inr (.inr (fun j => zrf η (g j)))))) := by
  unfold zE; rw [h]; rfl
section ZHP
variable {kds : List zKD} {D : va_G} {cl : List vw_C} {cy : Nat → ClassId} {L : List Nat} {Θ : Nat → Option Nat} {h0 : Nat → Nat → Int} {eff : List (Nat × Nat × Nat)} {A : Nat → Prop} {H0 : Heap} {nL : Nat}
theorem zH_get {h : Nat → Nat → Int} {H : Heap} {a k : Nat} {K : zKD} (g : zH η kds D cl cy L Θ h H) (h1 : Θ a = some k) (h2 : kds[k]? = some K) (h3 : K.1 ≤ 2) : ∃ q0 : Nat, ([] ++ va_pl L (zF η kds cy Θ h))[q0]? = some (η.1 a, zE η cy K (h a)) := by
  obtain ⟨K', e1, e2, -⟩ := g.2.2 a k h1
  cases h2.symm.trans e1
  obtain ⟨q0, hq⟩ := va_pl_get (X := []) (f := zF η kds cy Θ h) (e2 h3).1
  exact ⟨q0, by rw [hq, zF_at (e2 h3).2 h1 h2]⟩
theorem zH_in {h : Nat → Nat → Int} {H : Heap} {a k : Nat} {K : zKD} (g : zH η kds D cl cy L Θ h H) (h1 : Θ a = some k) (h2 : kds[k]? = some K) {j : Nat} (hj : j < K.2.2.1) : zok Θ (zty K j).1 (h a j) ∧ (zty K j).2.1 ≤ h a j ∧ h a j ≤ (zty K j).2.2 := by
  obtain ⟨K', e1, -, e3⟩ := g.2.2 a k h1
  cases h2.symm.trans e1
  exact e3 j hj
/-- the world behind a write -/
theorem zH_put {h : Nat → Nat → Int} {H H1 : Heap} {a k j q0 : Nat} {K : zKD} {x : Int} (g : zH η kds D cl cy L Θ h H) (hD : va_D A ([] ++ va_pl L (zF η kds cy Θ h))) (h1 : Θ a = some k) (h2 : kds[k]? = some K) (h3 : K.1 ≤ 2) (hj : j < K.2.2.1)
    (hx : zok Θ (zty K j).1 x ∧ (zty K j).2.1 ≤ x ∧ x ≤ (zty K j).2.2) (hq : ([] ++ va_pl L (zF η kds cy Θ h))[q0]? = some (η.1 a, zE η cy K (h a)))
    (hP : va_P D cl (([] ++ va_pl L (zF η kds cy Θ h)).set q0 (η.1 a, zE η cy K (zup h a j x a))) H1) : zH η kds D cl cy L Θ (zup h a j x) H1 := by
  obtain ⟨K', e1, e2, -⟩ := g.2.2 a k h1
  cases h2.symm.trans e1
  obtain ⟨e3, e4⟩ := e2 h3
  refine ⟨?_, g.2.1, fun b kb hb => ?_⟩
  · rw [va_pl_set hD e3 (by rw [hq, zF_at e4 h1 h2])] at hP
    rw [zpl_congr (g := va_up (zF η kds cy Θ h) (η.1 a) (zE η cy K (zup h a j x a)))]
    · exact hP
    · intro b hbL
      by_cases hb : b = η.1 a
      · subst hb
        rw [va_up_self, zF_at e4 h1 h2]
      · rw [va_up_ne _ _ hb]
        unfold zF zf
        rw [zup_row (fun e => hb (by rw [← e]; exact (g.2.1 b hbL).symm))]
  · obtain ⟨Kb, f1, f2, f3⟩ := g.2.2 b kb hb
    refine ⟨Kb, f1, f2, fun i hi => ?_⟩
    by_cases e : b = a ∧ i = j
    · obtain ⟨rfl, rfl⟩ := e
      cases h1.symm.trans hb
      cases h2.symm.trans f1
      rw [zup_at]
      exact hx
    · rw [zup_ne e]
      exact f3 i hi
/-! overrides -/
def zlook : List zOV → Nat → Nat → Nat → Option zAV
  | [], _, _, _ => none
  | ((k, i), j, v) :: r, kk, sy, sl => if (decide (k = kk) && decide (i = sy) && decide (j = sl)) = true then some v else zlook r kk sy sl
theorem z_look {ov : List zOV} {kk sy sl : Nat} {v : zAV} (h : zlook ov kk sy sl = some v) : ((kk, sy), sl, v) ∈ ov := by
  induction ov with
  | nil => cases h
  | cons q r ih =>
    obtain ⟨⟨k, i⟩, j, w⟩ := q
    unfold zlook at h
    split at h
    · rename_i e
      simp only [Bool.and_eq_true, decide_eq_true_eq] at e
      obtain ⟨⟨rfl, rfl⟩, rfl⟩ := e
      cases h
      exact List.mem_cons_self
    · exact List.mem_cons_of_mem _ (ih h)
/-- a slot is read: what is known of it, or a new symbol -/
def zrd (kds : List zKD) (env : List zIV) (ov : List zOV) (kk sy sl : Nat) : Option (List zIV × List zOV × zAV) :=
  match kds[kk]? with
  | none => none
  | some K =>
    if sl < K.2.2.1 then
      match zlook ov kk sy sl with
      | some v => if v.1 = (zty K sl).1 then some (env, ov, v) else none
      | none => some (env ++ [((zty K sl).2.1, (zty K sl).2.2)], ((kk, sy), sl, ((zty K sl).1, env.length, 0)) :: ov, ((zty K sl).1, env.length, 0))
    else none
theorem z_rd {env env' : List zIV} {ov ov' : List zOV} {kk sy sl : Nat} {v : zAV} {σ : List Int} {h : Nat → Nat → Int} {H : Heap} (hr : zrd kds env ov kk sy sl = some (env', ov', v)) (gE : zge σ env) (gV : zgv Θ h σ ov) (gH : zH η kds D cl cy L Θ h H) (hs : sy < σ.length) (h1 : 0 ≤ σ.getD sy 0) (h2 : Θ (σ.getD sy 0).toNat = some kk) :
    ∃ τ : List Int, zge (σ ++ τ) env' ∧ zgv Θ h (σ ++ τ) ov' ∧ zga Θ (σ ++ τ) v ∧ zev (σ ++ τ) v = h (σ.getD sy 0).toNat sl ∧ ∃ K, kds[kk]? = some K ∧ sl < K.2.2.1 ∧ v.1 = (zty K sl).1 := by
  unfold zrd at hr
  split at hr
  · cases hr
  · rename_i K hK
    split at hr
    · rename_i hsl
      split at hr
      · rename_i w hw
        split at hr
        · rename_i ht
          cases hr
          obtain ⟨-, g2, -, -, g5⟩ := gV _ (z_look hw)
          exact ⟨[], by rw [List.append_nil]; exact gE, by rw [List.append_nil]; exact gV, by rw [List.append_nil]; exact g2, by rw [List.append_nil]; exact g5.symm, K, hK, hsl, ht⟩
        · cases hr
      · cases hr
        obtain ⟨b1, b2, b3⟩ := zH_in gH h2 hK hsl
        have ev : zev (σ ++ [h (σ.getD sy 0).toNat sl]) ((zty K sl).1, env.length, 0) = h (σ.getD sy 0).toNat sl := by
          unfold zev
          simp only
          rw [z_gn gE]; simp
        have ga : zga Θ (σ ++ [h (σ.getD sy 0).toNat sl]) ((zty K sl).1, env.length, 0) := ⟨z_len gE, by rw [ev]; exact b1⟩
        refine ⟨[h (σ.getD sy 0).toNat sl], z_ge gE b2 b3, ?_, ga, ev, K, hK, hsl, rfl⟩
        intro o ho
        rcases List.mem_cons.mp ho with rfl | ho
        · refine ⟨by simp; omega, ga, ?_⟩
          simp only
          rw [z_gd hs]
          exact ⟨h1, h2, ev.symm⟩
        · exact z_gv gV o ho
    · cases hr
/-- behind a write -/
def zwr (ov : List zOV) (kk sy sl : Nat) (v : zAV) : List zOV := ((kk, sy), sl, v) :: ov.filter (fun o => !(decide (o.1.1 = kk) && decide (o.2.1 = sl)))
theorem z_wr {ov : List zOV} {kk sy sl : Nat} {v : zAV} {σ : List Int} {h : Nat → Nat → Int} (gV : zgv Θ h σ ov) (hv : zga Θ σ v) (hs : sy < σ.length) (h1 : 0 ≤ σ.getD sy 0) (h2 : Θ (σ.getD sy 0).toNat = some kk) : zgv Θ (zup h (σ.getD sy 0).toNat sl (zev σ v)) σ (zwr ov kk sy sl v) := by
  intro o ho
  rcases List.mem_cons.mp ho with rfl | ho
  · exact ⟨hs, hv, h1, h2, by simp only; rw [zup_at]⟩
  · obtain ⟨ho, hne⟩ := List.mem_filter.mp ho
    obtain ⟨g1, g2, g3, g4, g5⟩ := gV o ho
    refine ⟨g1, g2, g3, g4, ?_⟩
    rw [zup_ne]
    · exact g5
    · rintro ⟨e1, e2⟩
      rw [e1, h2] at g4
      cases g4
      simp [e2] at hne
theorem z_D {f : Nat → va_E} (hn : L.Nodup) (hA : ∀ a ∈ L, A a) : va_D A ([] ++ va_pl L f) := by
  rw [List.nil_append]
  refine ⟨fun i j x y hx hy e => ?_, fun k q hq => ?_⟩
  · unfold va_pl at hx hy
    rw [List.getElem?_map] at hx hy
    obtain ⟨u, hu, rfl⟩ := Option.map_eq_some_iff.mp hx
    obtain ⟨w, hw, rfl⟩ := Option.map_eq_some_iff.mp hy
    simp only at e
    subst e
    have hi := (List.getElem?_eq_some_iff.mp hu).1
    exact (List.getElem?_inj hi hn).mp (hu.trans hw.symm)
  · unfold va_pl at hq
    rw [List.getElem?_map] at hq
    obtain ⟨u, hu, rfl⟩ := Option.map_eq_some_iff.mp hq
    exact hA u (List.mem_of_getElem? hu)
end ZHP
