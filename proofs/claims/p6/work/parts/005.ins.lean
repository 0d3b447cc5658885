variable {η : zRn}
/-! instructions that leave the heap alone -/
section ZIN
variable {kds : List zKD} {D : va_G} {cl : List vw_C} {cy : Nat → ClassId} {L : List Nat} {Θ : Nat → Option Nat} {h0 : Nat → Nat → Int} {eff : List (Nat × Nat × Nat)} {A : Nat → Prop} {H0 : Heap} {nL : Nat}
variable {p : Program} {l : Launch} {e : Env} {R : Room} {s : State} {m : MethodId} {args : Array Value} {below : List Frame} {meth : Method} {c : Code} {Q : State → Prop}
variable {cc : ByteArray} {σA : List Int} {pc : Nat} {as : zAS}
theorem zgo_ext {pc' : Nat} {st : List zAV} {env' : List zIV} {d : zAV}
    (k : zGo η kds D cl cy L Θ h0 eff A H0 nL p l e R s m args below meth c Q σA pc' (env', as.2.1, d :: st, as.2.2.2))
    (hh : ∀ (σ : List Int) (h : Nat → Nat → Int) (H : Heap) (locs : List Loc) (ls : Array Slot), zG η kds D cl cy L Θ h0 eff A H0 nL as σ h H locs ls → (∀ a ∈ st, zga Θ σ a) ∧ ∃ τ : List Int, zge (σ ++ τ) env' ∧ zga Θ (σ ++ τ) d ∧
      (W p l e R s m args below meth c H locs 0 0 Q (F0 m pc' ls (zvo η (σ ++ τ) d :: st.map (zvo η σ))) → W p l e R s m args below meth c H locs 0 0 Q (F0 m pc ls (as.2.2.1.map (zvo η σ))))) :
    zGo η kds D cl cy L Θ h0 eff A H0 nL p l e R s m args below meth c Q σA pc as := by
  intro τ h H locs ls g
  obtain ⟨hst, τ', hE, hd, hw⟩ := hh _ h H locs ls g
  apply hw
  obtain ⟨gE, gL, hl, gS, gV, gR, gH, gF, gX⟩ := g
  rw [List.append_assoc] at hE hd
  have g' : zG η kds D cl cy L Θ h0 eff A H0 nL (env', as.2.1, d :: st, as.2.2.2) (σA ++ (τ ++ τ')) h H locs ls := by
    refine ⟨hE, fun q hq => by rw [← List.append_assoc]; exact z_ga (gL q hq), by rw [← List.append_assoc]; exact z_lv gL hl, ?_, by rw [← List.append_assoc]; exact z_gv gV, by rw [← List.append_assoc]; exact z_gr gR, gH, gF, gX⟩
    intro a ha
    rcases List.mem_cons.mp ha with rfl | ha
    · exact hd
    · rw [← List.append_assoc]; exact z_ga (hst a ha)
  have w := k (τ ++ τ') h H locs ls g'
  simp only [List.map_cons, ← List.append_assoc] at w
  rw [z_st hst] at w
  exact w
theorem z_c0 {σ : List Int} {env : List zIV} (gE : zge σ env) (h : env[0]? = some (0, 0)) : σ.getD 0 0 = 0 ∧ 0 < σ.length := by
  have h1 := gE.2 0 _ h
  have h2 := (List.getElem?_eq_some_iff.mp h).1
  simp only at h1
  exact ⟨by omega, by rw [gE.1]; exact h2⟩
theorem z_cv {σ : List Int} {env : List zIV} (gE : zge σ env) (h : env[0]? = some (0, 0)) (t : Nat) (n : Int) : zvo η σ (t, 0, n) = zdec η t n := by
  unfold zvo zev
  simp only
  rw [(z_c0 gE h).1]
  simp
theorem z_cg {σ : List Int} {env : List zIV} (gE : zge σ env) (h : env[0]? = some (0, 0)) {t : Nat} {n : Int} (hn : zok Θ t n) : zga Θ σ (t, 0, n) := by
  refine ⟨(z_c0 gE h).2, ?_⟩
  have : zev σ (t, 0, n) = n := by
    unfold zev
    simp only
    rw [(z_c0 gE h).1]; simp
  rw [this]; exact hn
/-- a constant of any type -/
theorem zgo_cst {len t : Nat} {n : Int} (h0' : as.1[0]? = some (0, 0)) (hn : zok Θ t n)
    (hw : ∀ (H : Heap) (locs : List Loc) (ls : Array Slot) (rest : List Value), W p l e R s m args below meth c H locs 0 0 Q (F0 m (pc + len) ls (zdec η t n :: rest)) → W p l e R s m args below meth c H locs 0 0 Q (F0 m pc ls rest))
    (k : zGo η kds D cl cy L Θ h0 eff A H0 nL p l e R s m args below meth c Q σA (pc + len) (as.1, as.2.1, (t, 0, n) :: as.2.2.1, as.2.2.2)) : zGo η kds D cl cy L Θ h0 eff A H0 nL p l e R s m args below meth c Q σA pc as := by
  refine zgo_stk k ?_
  intro σ h H locs ls g
  refine ⟨fun b hb => ?_, fun w => ?_⟩
  · rcases List.mem_cons.mp hb with rfl | hb
    · exact z_cg g.1 h0' hn
    · exact g.2.2.2.1 b hb
  · rw [List.map_cons, z_cv g.1 h0'] at w
    exact hw H locs ls _ w
theorem z_i8 : ∀ k : Fin 256, (Int8.ofInt ((k.val : Int) - 128)).toInt32 = Int32.ofInt ((k.val : Int) - 128) := by decide +kernel
theorem z_b8 {n : Int} (h1 : -128 ≤ n) (h2 : n ≤ 127) : (Int8.ofInt n).toInt32 = Int32.ofInt n := by
  have := z_i8 ⟨(n + 128).toNat, by omega⟩
  simp only at this
  rw [show ((n + 128).toNat : Int) - 128 = n by omega] at this
  exact this
theorem z_b16 {n : Int} (h1 : -32768 ≤ n) (h2 : n ≤ 32767) : (Int16.ofInt n).toInt32 = Int32.ofInt n := by
  apply Int32.toInt_inj.mp
  rw [Int16.toInt_toInt32, Int16.toInt_ofInt, z_toi (by omega) (by omega)]
  exact Int.bmod_eq_of_le (by simp only [Int16.size]; omega) (by simp only [Int16.size]; omega)
/-- arithmetic of two numbers -/
def zari (op : Nat) (env : List zIV) (a b : zAV) : Option (List zIV × zAV) :=
  match ziv env a, ziv env b with
  | some q, some r =>
    if (decide (op = 0) && decide (r.1 = r.2) && zin (q.1 + r.1, q.2 + r.1)) = true then some (env, (0, a.2.1, a.2.2 + r.1))
    else if (decide (op = 0) && decide (q.1 = q.2) && zin (r.1 + q.1, r.2 + q.1)) = true then some (env, (0, b.2.1, b.2.2 + q.1))
    else if (decide (op = 1) && decide (r.1 = r.2) && zin (q.1 - r.1, q.2 - r.1)) = true then some (env, (0, a.2.1, a.2.2 - r.1))
    else match zbin op q r with
      | some z => some (env ++ [z], (0, env.length, 0))
      | none => none
  | _, _ => none
theorem z_ci {σ : List Int} {a : zAV} (h : zga Θ σ a) (ht : a.1 = 0) : ∃ x : Int32, zvo η σ a = .int x ∧ x.toInt = zev σ a := by
  obtain ⟨t, i, o⟩ := a
  simp only at ht
  subst ht
  have h2 := h.2
  simp only [zok] at h2
  exact ⟨Int32.ofInt (zev σ (0, i, o)), rfl, z_toi h2.1 h2.2⟩
theorem z_ari {op : Nat} {σ : List Int} {env env' : List zIV} {a b d : zAV} (h : zari op env a b = some (env', d)) (gE : zge σ env) (ha : zga Θ σ a) (hb : zga Θ σ b) {x y : Int32} (hx : x.toInt = zev σ a) (hy : y.toInt = zev σ b) :
    ∃ τ : List Int, zge (σ ++ τ) env' ∧ zga Θ (σ ++ τ) d ∧ zvo η (σ ++ τ) d = .int (zsem op x y) := by
  unfold zari at h
  split at h
  · rename_i q r hq hr
    have bq := z_iv gE hq
    have br := z_iv gE hr
    split at h
    · rename_i h1
      simp only [Bool.and_eq_true, decide_eq_true_eq] at h1
      obtain ⟨⟨rfl, e1⟩, e2⟩ := h1
      have e3 := z_in e2
      simp only at e3
      cases h
      have ev : zev σ (0, a.2.1, a.2.2 + r.1) = x.toInt + y.toInt := by
        rw [hx, hy]; unfold zev at *; simp only; omega
      have es : (zsem 0 x y).toInt = x.toInt + y.toInt := z_add (by rw [hx, hy]; omega) (by rw [hx, hy]; omega)
      refine ⟨[], by rw [List.append_nil]; exact gE, ?_, ?_⟩
      · rw [List.append_nil]
        exact ⟨ha.1, by rw [ev]; show _ ∧ _; rw [hx, hy]; omega⟩
      · rw [List.append_nil]
        unfold zvo
        rw [ev, ← es]
        show Value.int (Int32.ofInt (zsem 0 x y).toInt) = _
        rw [z_ofi]
    · split at h
      · rename_i h1
        simp only [Bool.and_eq_true, decide_eq_true_eq] at h1
        obtain ⟨⟨rfl, e1⟩, e2⟩ := h1
        have e3 := z_in e2
        simp only at e3
        cases h
        have ev : zev σ (0, b.2.1, b.2.2 + q.1) = x.toInt + y.toInt := by
          rw [hx, hy]; unfold zev at *; simp only; omega
        have es : (zsem 0 x y).toInt = x.toInt + y.toInt := z_add (by rw [hx, hy]; omega) (by rw [hx, hy]; omega)
        refine ⟨[], by rw [List.append_nil]; exact gE, ?_, ?_⟩
        · rw [List.append_nil]
          exact ⟨hb.1, by rw [ev]; show _ ∧ _; rw [hx, hy]; omega⟩
        · rw [List.append_nil]
          unfold zvo
          rw [ev, ← es]
          show Value.int (Int32.ofInt (zsem 0 x y).toInt) = _
          rw [z_ofi]
      · split at h
        · rename_i h1
          simp only [Bool.and_eq_true, decide_eq_true_eq] at h1
          obtain ⟨⟨rfl, e1⟩, e2⟩ := h1
          have e3 := z_in e2
          simp only at e3
          cases h
          have ev : zev σ (0, a.2.1, a.2.2 - r.1) = x.toInt - y.toInt := by
            rw [hx, hy]; unfold zev at *; simp only; omega
          have es : (zsem 1 x y).toInt = x.toInt - y.toInt := z_sub (by rw [hx, hy]; omega) (by rw [hx, hy]; omega)
          refine ⟨[], by rw [List.append_nil]; exact gE, ?_, ?_⟩
          · rw [List.append_nil]
            exact ⟨ha.1, by rw [ev]; show _ ∧ _; rw [hx, hy]; omega⟩
          · rw [List.append_nil]
            unfold zvo
            rw [ev, ← es]
            show Value.int (Int32.ofInt (zsem 1 x y).toInt) = _
            rw [z_ofi]
        · split at h
          · rename_i z hz
            cases h
            have bz := z_bin hz (by rw [hx]; exact bq) (by rw [hy]; exact br)
            refine ⟨[(zsem op x y).toInt], z_ge gE bz.1 bz.2, ⟨z_len gE, ?_⟩, ?_⟩
            · have : zev (σ ++ [(zsem op x y).toInt]) (0, env.length, 0) = (zsem op x y).toInt := by
                unfold zev
                simp only
                rw [z_gn gE]; simp
              rw [this]
              exact ⟨z_lo _, z_hi _⟩
            · unfold zvo zev
              simp only
              rw [z_gn gE]
              simp [zdec]
          · cases h
  · cases h
theorem z_arinz {op : Nat} {σ : List Int} {env : List zIV} {a b : zAV} {w : List zIV × zAV} (h : zari op env a b = some w) (hop : op = 3 ∨ op = 4) (gE : zge σ env) {y : Int32} (hy : y.toInt = zev σ b) : 1 ≤ y.toInt := by
  unfold zari at h
  split at h
  · rename_i q r hq hr
    have br := z_iv gE hr
    split at h
    · rename_i h1
      simp only [Bool.and_eq_true, decide_eq_true_eq] at h1
      omega
    · split at h
      · rename_i h1
        simp only [Bool.and_eq_true, decide_eq_true_eq] at h1
        omega
      · split at h
        · rename_i h1
          simp only [Bool.and_eq_true, decide_eq_true_eq] at h1
          omega
        · split at h
          · rename_i z hz
            have : 1 ≤ r.1 := by
              rcases hop with rfl | rfl
              · unfold zbin at hz; simp only at hz; split at hz
                · assumption
                · cases hz
              · unfold zbin at hz; simp only at hz; split at hz
                · assumption
                · cases hz
            omega
          · cases h
  · cases h
theorem zgo_ari {op : Nat} {env' : List zIV} {a b d : zAV} {st : List zAV} (hs : as.2.2.1 = b :: a :: st) (ht : a.1 = 0 ∧ b.1 = 0) (h : zari op as.1 a b = some (env', d))
    (hw : ∀ (x y : Int32) (H : Heap) (locs : List Loc) (ls : Array Slot) (rest : List Value), (op = 3 ∨ op = 4 → 1 ≤ y.toInt) → W p l e R s m args below meth c H locs 0 0 Q (F0 m (pc + 1) ls (.int (zsem op x y) :: rest)) → W p l e R s m args below meth c H locs 0 0 Q (F0 m pc ls (.int y :: .int x :: rest)))
    (k : zGo η kds D cl cy L Θ h0 eff A H0 nL p l e R s m args below meth c Q σA (pc + 1) (env', as.2.1, d :: st, as.2.2.2)) : zGo η kds D cl cy L Θ h0 eff A H0 nL p l e R s m args below meth c Q σA pc as := by
  refine zgo_ext k ?_
  intro σ hh H locs ls g
  obtain ⟨gE, gL, hl, gS, gV, gR, gH, gF, gX⟩ := g
  rw [hs] at gS ⊢
  have gb := gS b List.mem_cons_self
  have ga := gS a (List.mem_cons_of_mem _ List.mem_cons_self)
  obtain ⟨x, ex, hx⟩ := z_ci ga ht.1
  obtain ⟨y, ey, hy⟩ := z_ci gb ht.2
  obtain ⟨τ, hE, hd, hv⟩ := z_ari h gE ga gb hx hy
  refine ⟨fun q hq => gS q (List.mem_cons_of_mem _ (List.mem_cons_of_mem _ hq)), τ, hE, hd, fun w => ?_⟩
  rw [hv] at w
  rw [List.map_cons, List.map_cons, ex, ey]
  exact hw x y H locs ls _ (fun ho => z_arinz h ho gE hy) w
end ZIN
