variable {η : zRn}
/-! one abstract state says no more than another: by a map of the other's symbols -/
abbrev zSB : Type := List (Nat × Nat × Int)
def zsb : zSB → Nat → Option (Nat × Int)
  | [], _ => none
  | (j, q) :: r, i => if j = i then some q else zsb r i
def zsg (σ : List Int) (sub : zSB) (j : Nat) : Int := match zsb sub j with
  | some q => σ.getD q.1 0 + q.2
  | none => 0
def zmap (σ : List Int) (sub : zSB) (n : Nat) : List Int := (List.range n).map (zsg σ sub)
theorem z_mapl {σ : List Int} {sub : zSB} {n : Nat} : (zmap σ sub n).length = n := by simp [zmap]
theorem z_mapg {σ : List Int} {sub : zSB} {n j : Nat} (h : j < n) : (zmap σ sub n).getD j 0 = zsg σ sub j := by
  unfold zmap
  simp [List.getD_eq_getElem?_getD, List.getElem?_range h]
/-- the bounds of the symbols -/
def zcke (env : List zIV) (sub : zSB) : Nat → List zIV → Bool
  | _, [] => true
  | j, q' :: r => (match zsb sub j with
      | some x => (match ziv env (0, x.1, x.2) with
        | some q => decide (q'.1 ≤ q.1) && decide (q.2 ≤ q'.2)
        | none => false)
      | none => false) && zcke env sub (j + 1) r
theorem z_cke {env : List zIV} {sub : zSB} {σ : List Int} (gE : zge σ env) : ∀ {env' : List zIV} {j : Nat}, zcke env sub j env' = true → ∀ (i : Nat) (q : zIV), env'[i]? = some q → (∃ x, zsb sub (j + i) = some x ∧ x.1 < σ.length) ∧ q.1 ≤ zsg σ sub (j + i) ∧ zsg σ sub (j + i) ≤ q.2 := by
  intro env'
  induction env' with
  | nil => intro j _ i q h; simp at h
  | cons q' r ih =>
    intro j h i q hi
    unfold zcke at h
    rw [Bool.and_eq_true] at h
    cases i with
    | zero =>
      simp at hi
      subst hi
      have h1 := h.1
      split at h1
      · rename_i x hx
        split at h1
        · rename_i z hz
          simp only [Bool.and_eq_true, decide_eq_true_eq] at h1
          have b := z_iv gE hz
          have bl := z_ivl gE hz
          rw [Nat.add_zero]
          refine ⟨⟨x, hx, bl⟩, ?_⟩
          unfold zsg
          rw [hx]
          unfold zev at b
          simp only at b ⊢
          omega
        · cases h1
      · cases h1
    | succ i =>
      have := ih h.2 i q (by simpa using hi)
      rw [show j + (i + 1) = j + 1 + i by omega]
      exact this
/-- a target's value is this value -/
def zav (env : List zIV) (sub : zSB) (a' a : zAV) : Bool := match zcast env a'.1 a with
  | some w => decide (zsb sub a'.2.1 = some (w.2.1, w.2.2 - a'.2.2))
  | none => false
theorem z_av {Θ : Nat → Option Nat} {env : List zIV} {sub : zSB} {σ : List Int} {a' a : zAV} {n : Nat} (gE : zge σ env) (ga : zga Θ σ a) (hn : ∀ j x, zsb sub j = some x → j < n) (h : zav env sub a' a = true) : zga Θ (zmap σ sub n) a' ∧ zvo η (zmap σ sub n) a' = zvo η σ a ∧ zev (zmap σ sub n) a' = zev σ a := by
  unfold zav at h
  split at h
  · rename_i w hw
    simp only [decide_eq_true_eq] at h
    obtain ⟨e1, e2, e3, e4⟩ := z_cast hw gE ga
    have hj := hn _ _ h
    have ev : zev (zmap σ sub n) a' = zev σ w := by
      unfold zev
      rw [z_mapg hj]
      unfold zsg
      rw [h]
      simp only
      omega
    refine ⟨⟨by rw [z_mapl]; exact hj, ?_⟩, ?_, by rw [ev, e3]⟩
    · rw [ev, ← e1]; exact e2.2
    · rw [← e4]
      unfold zvo
      rw [ev, e1]
  · cases h
def zckl (env : List zIV) (sub : zSB) (loc : List (Nat × zAV)) : List (Nat × zAV) → Bool
  | [] => true
  | (i, a') :: r => (match zfind loc i with
      | some a => zav env sub a' a
      | none => false) && zckl env sub loc r
def zcks (env : List zIV) (sub : zSB) : List zAV → List zAV → Bool
  | [], [] => true
  | a' :: r', a :: r => zav env sub a' a && zcks env sub r' r
  | _, _ => false
def zckv (env : List zIV) (sub : zSB) (ov : List zOV) : List zOV → Bool
  | [] => true
  | ((k, j), sl, v') :: r => (match zsb sub j with
      | some x => decide (x.2 = 0) && (match zlook ov k x.1 sl with
        | some v => zav env sub v' v
        | none => false)
      | none => false) && zckv env sub ov r
/-- a lower bound of one symbol by another -/
def zrlN (env : List zIV) (rel : List (Nat × Nat × Int)) : Nat → Nat → Int → Nat → Int → Bool
  | n, i, d, b, d2 => (decide (i = b) && decide (d2 ≤ d)) || (match n with
      | 0 => false
      | n + 1 => rel.any (fun r => decide (r.1 = i) && zrlN env rel n r.2.1 (r.2.2 + d) b d2)) ||
    (match ziv env (0, i, d), ziv env (0, b, d2) with
      | some q, some r => decide (r.2 ≤ q.1)
      | _, _ => false)
def zrle (env : List zIV) (rel : List (Nat × Nat × Int)) (i : Nat) (d : Int) (b : Nat) (d2 : Int) : Bool := zrlN env rel 6 i d b d2
theorem z_rlN {env : List zIV} {rel : List (Nat × Nat × Int)} {σ : List Int} (gE : zge σ env) (gR : zgr σ rel) : ∀ {n i b : Nat} {d d2 : Int}, zrlN env rel n i d b d2 = true → σ.getD b 0 + d2 ≤ σ.getD i 0 + d := by
  intro n
  induction n with
  | zero =>
    intro i b d d2 h
    unfold zrlN at h
    rw [Bool.or_eq_true, Bool.or_eq_true] at h
    rcases h with (h | h) | h
    · simp only [Bool.and_eq_true, decide_eq_true_eq] at h
      obtain ⟨rfl, h⟩ := h
      omega
    · cases h
    · split at h
      · rename_i q r hq hr
        simp only [decide_eq_true_eq] at h
        have b1 := z_iv gE hq
        have b2 := z_iv gE hr
        unfold zev at b1 b2
        simp only at b1 b2
        omega
      · cases h
  | succ n ih =>
    intro i b d d2 h
    unfold zrlN at h
    rw [Bool.or_eq_true, Bool.or_eq_true] at h
    rcases h with (h | h) | h
    · simp only [Bool.and_eq_true, decide_eq_true_eq] at h
      obtain ⟨rfl, h⟩ := h
      omega
    · simp only at h
      rw [List.any_eq_true] at h
      obtain ⟨r, hr, h⟩ := h
      simp only [Bool.and_eq_true, decide_eq_true_eq] at h
      obtain ⟨rfl, h⟩ := h
      have h1 := ih h
      have h2 := (gR r hr).2.2
      omega
    · split at h
      · rename_i q r hq hr
        simp only [decide_eq_true_eq] at h
        have b1 := z_iv gE hq
        have b2 := z_iv gE hr
        unfold zev at b1 b2
        simp only at b1 b2
        omega
      · cases h
theorem z_rle {env : List zIV} {rel : List (Nat × Nat × Int)} {σ : List Int} {i b : Nat} {d d2 : Int} (gE : zge σ env) (gR : zgr σ rel) (h : zrle env rel i d b d2 = true) : σ.getD b 0 + d2 ≤ σ.getD i 0 + d := z_rlN gE gR h
def zckr (env : List zIV) (sub : zSB) (rel : List (Nat × Nat × Int)) : List (Nat × Nat × Int) → Bool
  | [] => true
  | (i', b', r) :: t => (match zsb sub i', zsb sub b' with
      | some x, some y => zrle env rel x.1 x.2 y.1 (y.2 + r)
      | _, _ => false) && zckr env sub rel t
def zckp (sub : zSB) : Nat → Bool
  | 0 => true
  | n + 1 => decide (zsb sub n = some (n, 0)) && zckp sub n
def zckn (n : Nat) : zSB → Bool
  | [] => true
  | (j, _) :: r => decide (j < n) && zckn n r
theorem z_ckn {n : Nat} {sub : zSB} (h : zckn n sub = true) : ∀ j x, zsb sub j = some x → j < n := by
  induction sub with
  | nil => intro j x h; cases h
  | cons q r ih =>
    obtain ⟨k, y⟩ := q
    unfold zckn at h
    simp only [Bool.and_eq_true, decide_eq_true_eq] at h
    intro j x hx
    unfold zsb at hx
    split at hx
    · rename_i e
      subst e
      exact h.1
    · exact ih h.2 j x hx
theorem z_ckp {sub : zSB} : ∀ {n : Nat}, zckp sub n = true → ∀ j, j < n → zsb sub j = some (j, 0) := by
  intro n
  induction n with
  | zero => intro _ j h; omega
  | succ n ih =>
    intro h j hj
    unfold zckp at h
    simp only [Bool.and_eq_true, decide_eq_true_eq] at h
    by_cases e : j = n
    · subst e; exact h.1
    · exact ih h.2 j (by omega)
/-- all of it -/
def zmt (n0 : Nat) (as tg : zAS) (sub : zSB) : Bool :=
  zckn tg.1.length sub && zckp sub n0 && zcke as.1 sub 0 tg.1 && zckl as.1 sub as.2.1 tg.2.1 && zcks as.1 sub tg.2.2.1 as.2.2.1 && zckv as.1 sub as.2.2.2.1 tg.2.2.2.1 && zckr as.1 sub as.2.2.2.2 tg.2.2.2.2
section ZMT
variable {kds : List zKD} {D : va_G} {cl : List vw_C} {cy : Nat → ClassId} {L : List Nat} {Θ : Nat → Option Nat} {h0 : Nat → Nat → Int} {eff : List (Nat × Nat × Nat)} {A : Nat → Prop} {H0 : Heap} {nL : Nat}
theorem z_ckl {env : List zIV} {sub : zSB} {σ : List Int} {n : Nat} {loc : List (Nat × zAV)} (gE : zge σ env) (gL : ∀ q ∈ loc, zga Θ σ q.2) (hn : ∀ j x, zsb sub j = some x → j < n) : ∀ {loc' : List (Nat × zAV)}, zckl env sub loc loc' = true → ∀ q ∈ loc', ∃ a, zfind loc q.1 = some a ∧ zga Θ (zmap σ sub n) q.2 ∧ zvo η (zmap σ sub n) q.2 = zvo η σ a := by
  intro loc'
  induction loc' with
  | nil => intro _ q hq; cases hq
  | cons q' r ih =>
    intro h q hq
    obtain ⟨i, a'⟩ := q'
    unfold zckl at h
    rw [Bool.and_eq_true] at h
    rcases List.mem_cons.mp hq with rfl | hq
    · have h1 := h.1
      split at h1
      · rename_i a ha
        obtain ⟨e1, e2, -⟩ := z_av gE (gL _ (z_find ha)) hn h1
        exact ⟨a, ha, e1, e2⟩
      · cases h1
    · exact ih h.2 q hq
theorem z_cks {env : List zIV} {sub : zSB} {σ : List Int} {n : Nat} (gE : zge σ env) (hn : ∀ j x, zsb sub j = some x → j < n) : ∀ {st' st : List zAV}, (∀ a ∈ st, zga Θ σ a) → zcks env sub st' st = true → (∀ a ∈ st', zga Θ (zmap σ sub n) a) ∧ st'.map (zvo η (zmap σ sub n)) = st.map (zvo η σ) := by
  intro st'
  induction st' with
  | nil =>
    intro st g h
    cases st with
    | nil => exact ⟨fun _ h => (by cases h), rfl⟩
    | cons a r => cases h
  | cons a' r' ih =>
    intro st g h
    cases st with
    | nil => cases h
    | cons a r =>
      unfold zcks at h
      rw [Bool.and_eq_true] at h
      obtain ⟨e1, e2, -⟩ := z_av gE (g a List.mem_cons_self) hn h.1
      obtain ⟨f1, f2⟩ := ih (fun b hb => g b (List.mem_cons_of_mem _ hb)) h.2
      refine ⟨fun b hb => ?_, by rw [List.map_cons, List.map_cons, e2, f2]⟩
      rcases List.mem_cons.mp hb with rfl | hb
      · exact e1
      · exact f1 b hb
theorem z_ckv {env : List zIV} {sub : zSB} {σ : List Int} {n : Nat} {ov : List zOV} {h : Nat → Nat → Int} (gE : zge σ env) (gV : zgv Θ h σ ov) (hn : ∀ j x, zsb sub j = some x → j < n) : ∀ {ov' : List zOV}, zckv env sub ov ov' = true → zgv Θ h (zmap σ sub n) ov' := by
  intro ov'
  induction ov' with
  | nil => intro _ o ho; cases ho
  | cons q r ih =>
    intro hc o ho
    obtain ⟨⟨k, j⟩, sl, v'⟩ := q
    unfold zckv at hc
    rw [Bool.and_eq_true] at hc
    rcases List.mem_cons.mp ho with rfl | ho
    · have h1 := hc.1
      split at h1
      · rename_i x hx
        rw [Bool.and_eq_true] at h1
        have h2 := h1.2
        split at h2
        · rename_i v hv
          obtain ⟨g1, g2, g3, g4, g5⟩ := gV _ (z_look hv)
          simp only at g1 g2 g3 g4 g5
          obtain ⟨e1, -, e3⟩ := z_av (η := ((id, id) : zRn)) gE g2 hn h2
          have hj := hn _ _ hx
          have es : (zmap σ sub n).getD j 0 = σ.getD x.1 0 := by
            rw [z_mapg hj]
            unfold zsg
            rw [hx]
            have := of_decide_eq_true h1.1
            simp only
            omega
          refine ⟨by rw [z_mapl]; exact hj, e1, ?_⟩
          simp only
          rw [es, e3]
          exact ⟨g3, g4, g5⟩
        · cases h2
      · cases h1
    · exact ih hc.2 o ho
theorem z_ckr {env : List zIV} {sub : zSB} {σ : List Int} {n : Nat} {rel : List (Nat × Nat × Int)} (gE : zge σ env) (gR : zgr σ rel) (hn : ∀ j x, zsb sub j = some x → j < n) : ∀ {rel' : List (Nat × Nat × Int)}, zckr env sub rel rel' = true → zgr (zmap σ sub n) rel' := by
  intro rel'
  induction rel' with
  | nil => intro _ o ho; cases ho
  | cons q r ih =>
    intro hc o ho
    obtain ⟨i', b', t⟩ := q
    unfold zckr at hc
    rw [Bool.and_eq_true] at hc
    rcases List.mem_cons.mp ho with rfl | ho
    · have h1 := hc.1
      split at h1
      · rename_i x y hx hy
        have := z_rle gE gR h1
        refine ⟨by rw [z_mapl]; exact hn _ _ hx, by rw [z_mapl]; exact hn _ _ hy, ?_⟩
        simp only
        rw [z_mapg (hn _ _ hx), z_mapg (hn _ _ hy)]
        unfold zsg
        rw [hx, hy]
        simp only
        omega
      · cases h1
    · exact ih hc.2 o ho
theorem z_pre {σ0 ρ : List Int} {sub : zSB} {n : Nat} (hp : ∀ j, j < σ0.length → zsb sub j = some (j, 0)) (hn : σ0.length ≤ n) : ∃ ρ', zmap (σ0 ++ ρ) sub n = σ0 ++ ρ' := by
  refine ⟨(zmap (σ0 ++ ρ) sub n).drop σ0.length, ?_⟩
  apply List.ext_getElem?
  intro i
  by_cases hi : i < σ0.length
  · rw [List.getElem?_append_left hi]
    unfold zmap
    rw [List.getElem?_map, List.getElem?_range (by omega)]
    simp only [Option.map_some]
    unfold zsg
    rw [hp i hi]
    simp only
    rw [z_gd hi, List.getD_eq_getElem?_getD, List.getElem?_eq_getElem hi]
    simp
  · rw [List.getElem?_append_right (by omega), List.getElem?_drop]
    congr 1
    omega
/-- a state of which the one says the truth, of it the other does too -/
theorem z_mt {σ0 ρ : List Int} {as tg : zAS} {sub : zSB} {h : Nat → Nat → Int} {H : Heap} {locs : List Loc} {ls : Array Slot} (hm : zmt σ0.length as tg sub = true) (hlen : σ0.length ≤ tg.1.length) (g : zG η kds D cl cy L Θ h0 eff A H0 nL as (σ0 ++ ρ) h H locs ls) :
    (∃ ρ', zmap (σ0 ++ ρ) sub tg.1.length = σ0 ++ ρ') ∧ zG η kds D cl cy L Θ h0 eff A H0 nL tg (zmap (σ0 ++ ρ) sub tg.1.length) h H locs ls ∧ tg.2.2.1.map (zvo η (zmap (σ0 ++ ρ) sub tg.1.length)) = as.2.2.1.map (zvo η (σ0 ++ ρ)) := by
  unfold zmt at hm
  simp only [Bool.and_eq_true] at hm
  obtain ⟨⟨⟨⟨⟨⟨m1, m2⟩, m3⟩, m4⟩, m5⟩, m6⟩, m7⟩ := hm
  obtain ⟨gE, gL, hl, gS, gV, gR, gH, gF, gX⟩ := g
  have hn := z_ckn m1
  have hE : zge (zmap (σ0 ++ ρ) sub tg.1.length) tg.1 := by
    refine ⟨z_mapl, fun i q hi => ?_⟩
    have := z_cke gE m3 i q hi
    rw [Nat.zero_add] at this
    rw [z_mapg (List.getElem?_eq_some_iff.mp hi).1]
    exact this.2
  obtain ⟨s1, s2⟩ := z_cks (η := η) (Θ := Θ) gE hn gS m5
  have kl := z_ckl (η := η) (Θ := Θ) gE gL hn m4
  refine ⟨z_pre (z_ckp m2) hlen, ⟨hE, fun q hq => (kl q hq).choose_spec.2.1, ⟨hl.1, hl.2.1, fun q hq => ?_⟩, s1, z_ckv gE gV hn m6, z_ckr gE gR hn m7, gH, gF, gX⟩, s2⟩
  obtain ⟨q', hq', rfl⟩ := List.mem_map.mp hq
  obtain ⟨a, ha, -, e⟩ := kl q' hq'
  simp only
  rw [e]
  exact z_at hl ha
end ZMT
