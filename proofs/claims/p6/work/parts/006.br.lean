variable {η : zRn}
/-! comparisons -/
def zbr (cd : Nat) (env : List zIV) (a b : zAV) : Option (List zIV) :=
  match ziv env a, ziv env b with
  | some q, some r =>
    if (decide ((zref cd q r).1.1 ≤ (zref cd q r).1.2) && decide ((zref cd q r).2.1 ≤ (zref cd q r).2.2)) = true then
      some ((env.set a.2.1 ((zref cd q r).1.1 - a.2.2, (zref cd q r).1.2 - a.2.2)).set b.2.1 ((zref cd q r).2.1 - b.2.2, (zref cd q r).2.2 - b.2.2))
    else none
  | _, _ => some env
theorem z_br {cd : Nat} {σ : List Int} {env : List zIV} {a b : zAV} (gE : zge σ env) (h : zcmp cd (zev σ a) (zev σ b)) : ∃ env', zbr cd env a b = some env' ∧ zge σ env' := by
  unfold zbr
  split
  · rename_i q r hq hr
    have := z_ref h (z_iv gE hq) (z_iv gE hr)
    rw [if_pos (by simp only [Bool.and_eq_true, decide_eq_true_eq]; omega)]
    refine ⟨_, rfl, z_set (z_set gE ?_ ?_) ?_ ?_⟩ <;> (unfold zev at this; simp only; omega)
  · exact ⟨env, rfl, gE⟩
def zcn (cd : Jvm.ClassFile.Cond) : Nat := match cd with
  | .lt => 0
  | .ge => 1
  | .gt => 2
  | .le => 3
  | .eq => 4
  | .ne => 5
section ZBR
variable {kds : List zKD} {D : va_G} {cl : List vw_C} {cy : Nat → ClassId} {L : List Nat} {Θ : Nat → Option Nat} {h0 : Nat → Nat → Int} {eff : List (Nat × Nat × Nat)} {A : Nat → Prop} {H0 : Heap} {nL : Nat}
variable {p : Program} {l : Launch} {e : Env} {R : Room} {s : State} {m : MethodId} {args : Array Value} {below : List Frame} {meth : Method} {c : Code} {Q : State → Prop}
variable {cc : ByteArray} {σA : List Int} {pc : Nat} {as : zAS} {H : Heap} {locs : List Loc} {ls : Array Slot} {rest : List Value}
theorem z_icmp (hexec : p.tables.exec = Jvm.exec) (hb : c.code = cc) {cd : Jvm.ClassFile.Cond} {x y : Int32} {off : Int} {tgt : Nat} (hdg : decode cc pc = .ok (.if_icmp cd off, 3)) (ht : (pc : Int) + off = (tgt : Int))
    (kt : zcmp (zcn cd) x.toInt y.toInt → W p l e R s m args below meth c H locs 0 0 Q (F0 m tgt ls rest)) (kf : ¬ zcmp (zcn cd) x.toInt y.toInt → W p l e R s m args below meth c H locs 0 0 Q (F0 m (pc + 3) ls rest)) :
    W p l e R s m args below meth c H locs 0 0 Q (F0 m pc ls (.int y :: .int x :: rest)) := by
  cases cd with
  | lt => exact lv_icmp_lt hexec hb hdg ht (fun h => kt (Int32.lt_iff_toInt_lt.mp h)) (fun h => kf (fun g => h (Int32.lt_iff_toInt_lt.mpr g)))
  | ge => exact lv_icmp_ge hexec hb hdg ht (fun h => kt (Int32.le_iff_toInt_le.mp h)) (fun h => kf (fun g => h (Int32.le_iff_toInt_le.mpr g)))
  | gt => exact lv_icmp_gt hexec hb hdg ht (fun h => kt (Int32.lt_iff_toInt_lt.mp h)) (fun h => kf (fun g => h (Int32.lt_iff_toInt_lt.mpr g)))
  | le => exact lv_icmp_le hexec hb hdg ht (fun h => kt (Int32.le_iff_toInt_le.mp h)) (fun h => kf (fun g => h (Int32.le_iff_toInt_le.mpr g)))
  | eq => exact lv_icmp_eq hexec hb hdg ht (fun h => kt (by rw [h]; exact rfl)) (fun h => kf (fun g => h (Int32.toInt_inj.mp g)))
  | ne => exact lv_icmp_ne hexec hb hdg ht (fun h => kt (fun g => h (Int32.toInt_inj.mp g))) (fun h => kf (fun g => g (by rw [h])))
theorem z_ic0 (hexec : p.tables.exec = Jvm.exec) (hb : c.code = cc) {cd : Jvm.ClassFile.Cond} {x : Int32} {off : Int} {tgt : Nat} (hdg : decode cc pc = .ok (.ifCond cd off, 3)) (ht : (pc : Int) + off = (tgt : Int))
    (kt : zcmp (zcn cd) x.toInt 0 → W p l e R s m args below meth c H locs 0 0 Q (F0 m tgt ls rest)) (kf : ¬ zcmp (zcn cd) x.toInt 0 → W p l e R s m args below meth c H locs 0 0 Q (F0 m (pc + 3) ls rest)) :
    W p l e R s m args below meth c H locs 0 0 Q (F0 m pc ls (.int x :: rest)) := by
  have e0 : (0 : Int32).toInt = 0 := rfl
  rw [← e0] at kt kf
  cases cd with
  | lt => exact lv_if_lt hexec hb hdg ht (fun h => kt (Int32.lt_iff_toInt_lt.mp h)) (fun h => kf (fun g => h (Int32.lt_iff_toInt_lt.mpr g)))
  | ge => exact lv_if_ge hexec hb hdg ht (fun h => kt (Int32.le_iff_toInt_le.mp h)) (fun h => kf (fun g => h (Int32.le_iff_toInt_le.mpr g)))
  | gt => exact lv_if_gt hexec hb hdg ht (fun h => kt (Int32.lt_iff_toInt_lt.mp h)) (fun h => kf (fun g => h (Int32.lt_iff_toInt_lt.mpr g)))
  | le => exact lv_if_le hexec hb hdg ht (fun h => kt (Int32.le_iff_toInt_le.mp h)) (fun h => kf (fun g => h (Int32.le_iff_toInt_le.mpr g)))
  | eq => exact lv_if_eq hexec hb hdg ht (fun h => kt (by rw [h]; exact rfl)) (fun h => kf (fun g => h (Int32.toInt_inj.mp g)))
  | ne => exact lv_if_ne hexec hb hdg ht (fun h => kt (fun g => h (Int32.toInt_inj.mp g))) (fun h => kf (fun g => g (by rw [h])))
theorem zG_env {env' : List zIV} {st : List zAV} {σ : List Int} {h : Nat → Nat → Int} (g : zG η kds D cl cy L Θ h0 eff A H0 nL as σ h H locs ls) (hE : zge σ env') (hst : ∀ a ∈ st, zga Θ σ a) : zG η kds D cl cy L Θ h0 eff A H0 nL (env', as.2.1, st, as.2.2.2) σ h H locs ls := by
  obtain ⟨gE, gL, hl, gS, gV, gR, gH, gF, gX⟩ := g
  exact ⟨hE, gL, hl, hst, gV, gR, gH, gF, gX⟩
theorem zgo_icmp (hexec : p.tables.exec = Jvm.exec) (hb : c.code = cc) {cd : Jvm.ClassFile.Cond} {off : Int} {tgt : Nat} (hdg : decode cc pc = .ok (.if_icmp cd off, 3)) (ht : (pc : Int) + off = (tgt : Int)) {a b : zAV} {st : List zAV} (hs : as.2.2.1 = b :: a :: st) (hty : a.1 = 0 ∧ b.1 = 0)
    (kt : ∀ env', zbr (zcn cd) as.1 a b = some env' → zGo η kds D cl cy L Θ h0 eff A H0 nL p l e R s m args below meth c Q σA tgt (env', as.2.1, st, as.2.2.2))
    (kf : ∀ env', zbr (znot (zcn cd)) as.1 a b = some env' → zGo η kds D cl cy L Θ h0 eff A H0 nL p l e R s m args below meth c Q σA (pc + 3) (env', as.2.1, st, as.2.2.2)) :
    zGo η kds D cl cy L Θ h0 eff A H0 nL p l e R s m args below meth c Q σA pc as := by
  intro τ h H locs ls g
  have gS := g.2.2.2.1
  rw [hs] at gS ⊢
  obtain ⟨x, ex, hx⟩ := z_ci (gS a (List.mem_cons_of_mem _ List.mem_cons_self)) hty.1
  obtain ⟨y, ey, hy⟩ := z_ci (gS b List.mem_cons_self) hty.2
  have gst : ∀ q ∈ st, zga Θ (σA ++ τ) q := fun q hq => gS q (List.mem_cons_of_mem _ (List.mem_cons_of_mem _ hq))
  rw [List.map_cons, List.map_cons, ex, ey]
  refine z_icmp hexec hb hdg ht (fun hc => ?_) (fun hc => ?_)
  · rw [hx, hy] at hc
    obtain ⟨env', h1, h2⟩ := z_br g.1 hc
    exact kt env' h1 τ h H locs ls (zG_env g h2 gst)
  · rw [hx, hy] at hc
    obtain ⟨env', h1, h2⟩ := z_br g.1 (z_not hc)
    exact kf env' h1 τ h H locs ls (zG_env g h2 gst)
theorem z_e0 {σ : List Int} {env : List zIV} (gE : zge σ env) (h : env[0]? = some (0, 0)) (t : Nat) (n : Int) : zev σ (t, 0, n) = n := by
  unfold zev
  simp only
  rw [(z_c0 gE h).1]; simp
theorem zgo_if (hexec : p.tables.exec = Jvm.exec) (hb : c.code = cc) {cd : Jvm.ClassFile.Cond} {off : Int} {tgt : Nat} (hdg : decode cc pc = .ok (.ifCond cd off, 3)) (ht : (pc : Int) + off = (tgt : Int)) {a : zAV} {st : List zAV} (hs : as.2.2.1 = a :: st) (hty : a.1 = 0) (hc0 : as.1[0]? = some (0, 0))
    (kt : ∀ env', zbr (zcn cd) as.1 a (0, 0, 0) = some env' → zGo η kds D cl cy L Θ h0 eff A H0 nL p l e R s m args below meth c Q σA tgt (env', as.2.1, st, as.2.2.2))
    (kf : ∀ env', zbr (znot (zcn cd)) as.1 a (0, 0, 0) = some env' → zGo η kds D cl cy L Θ h0 eff A H0 nL p l e R s m args below meth c Q σA (pc + 3) (env', as.2.1, st, as.2.2.2)) :
    zGo η kds D cl cy L Θ h0 eff A H0 nL p l e R s m args below meth c Q σA pc as := by
  intro τ h H locs ls g
  have gS := g.2.2.2.1
  rw [hs] at gS ⊢
  obtain ⟨x, ex, hx⟩ := z_ci (gS a List.mem_cons_self) hty
  have gst : ∀ q ∈ st, zga Θ (σA ++ τ) q := fun q hq => gS q (List.mem_cons_of_mem _ hq)
  rw [List.map_cons, ex]
  refine z_ic0 hexec hb hdg ht (fun hc => ?_) (fun hc => ?_)
  · rw [hx, ← z_e0 g.1 hc0 0 0] at hc
    obtain ⟨env', h1, h2⟩ := z_br g.1 hc
    exact kt env' h1 τ h H locs ls (zG_env g h2 gst)
  · rw [hx, ← z_e0 g.1 hc0 0 0] at hc
    obtain ⟨env', h1, h2⟩ := z_br g.1 (z_not hc)
    exact kf env' h1 τ h H locs ls (zG_env g h2 gst)
/-- a reference: null or not -/
theorem z_rr {σ : List Int} {a : zAV} {k : Nat} (h : zga Θ σ a) (ht : a.1 = k + 2) : (zev σ a = -1 ∧ zvo η σ a = .null) ∨ (0 ≤ zev σ a ∧ Θ (zev σ a).toNat = some k ∧ zvo η σ a = .ref (η.1 (zev σ a).toNat)) := by
  obtain ⟨t, i, o⟩ := a
  simp only at ht
  subst ht
  have h2 := h.2
  simp only [zok] at h2
  rcases h2 with h2 | ⟨h2, h3⟩
  · refine Or.inl ⟨h2, ?_⟩
    unfold zvo
    rw [h2]
    rfl
  · refine Or.inr ⟨h2, h3, ?_⟩
    unfold zvo
    show va_rf (zrf η _) = _
    unfold zrf
    rw [if_neg (by omega)]
    rfl
theorem zgo_null (hexec : p.tables.exec = Jvm.exec) (hb : c.code = cc) {off : Int} {tgt : Nat} (hdg : decode cc pc = .ok (.ifnull off, 3)) (ht : (pc : Int) + off = (tgt : Int)) {a : zAV} {k : Nat} {st : List zAV} (hs : as.2.2.1 = a :: st) (hty : a.1 = k + 2) (hc0 : as.1[0]? = some (0, 0))
    (kt : ∀ env', zbr 0 as.1 a (0, 0, 0) = some env' → zGo η kds D cl cy L Θ h0 eff A H0 nL p l e R s m args below meth c Q σA tgt (env', as.2.1, st, as.2.2.2))
    (kf : ∀ env', zbr 1 as.1 a (0, 0, 0) = some env' → zGo η kds D cl cy L Θ h0 eff A H0 nL p l e R s m args below meth c Q σA (pc + 3) (env', as.2.1, st, as.2.2.2)) :
    zGo η kds D cl cy L Θ h0 eff A H0 nL p l e R s m args below meth c Q σA pc as := by
  intro τ h H locs ls g
  have gS := g.2.2.2.1
  rw [hs] at gS ⊢
  have gst : ∀ q ∈ st, zga Θ (σA ++ τ) q := fun q hq => gS q (List.mem_cons_of_mem _ hq)
  rw [List.map_cons]
  rcases z_rr (gS a List.mem_cons_self) hty with ⟨h1, ex⟩ | ⟨h1, h2, ex⟩
  · rw [ex]
    refine lv_ifnullN hexec hb hdg ht ?_
    obtain ⟨env', h3, h4⟩ := z_br (cd := 0) (a := a) (b := (0, 0, 0)) g.1 (by rw [z_e0 g.1 hc0 0 0, h1]; exact (by decide : (-1 : Int) < 0))
    exact kt env' h3 τ h H locs ls (zG_env g h4 gst)
  · rw [ex]
    refine lv_ifnull hexec hb hdg ?_
    obtain ⟨env', h3, h4⟩ := z_br (cd := 1) (a := a) (b := (0, 0, 0)) g.1 (by rw [z_e0 g.1 hc0 0 0]; exact h1)
    exact kf env' h3 τ h H locs ls (zG_env g h4 gst)
theorem zgo_nonnull (hexec : p.tables.exec = Jvm.exec) (hb : c.code = cc) {off : Int} {tgt : Nat} (hdg : decode cc pc = .ok (.ifnonnull off, 3)) (ht : (pc : Int) + off = (tgt : Int)) {a : zAV} {k : Nat} {st : List zAV} (hs : as.2.2.1 = a :: st) (hty : a.1 = k + 2) (hc0 : as.1[0]? = some (0, 0))
    (kt : ∀ env', zbr 1 as.1 a (0, 0, 0) = some env' → zGo η kds D cl cy L Θ h0 eff A H0 nL p l e R s m args below meth c Q σA tgt (env', as.2.1, st, as.2.2.2))
    (kf : ∀ env', zbr 0 as.1 a (0, 0, 0) = some env' → zGo η kds D cl cy L Θ h0 eff A H0 nL p l e R s m args below meth c Q σA (pc + 3) (env', as.2.1, st, as.2.2.2)) :
    zGo η kds D cl cy L Θ h0 eff A H0 nL p l e R s m args below meth c Q σA pc as := by
  intro τ h H locs ls g
  have gS := g.2.2.2.1
  rw [hs] at gS ⊢
  have gst : ∀ q ∈ st, zga Θ (σA ++ τ) q := fun q hq => gS q (List.mem_cons_of_mem _ hq)
  rw [List.map_cons]
  rcases z_rr (gS a List.mem_cons_self) hty with ⟨h1, ex⟩ | ⟨h1, h2, ex⟩
  · rw [ex]
    refine lv_ifnonnullN hexec hb hdg ?_
    obtain ⟨env', h3, h4⟩ := z_br (cd := 0) (a := a) (b := (0, 0, 0)) g.1 (by rw [z_e0 g.1 hc0 0 0, h1]; exact (by decide : (-1 : Int) < 0))
    exact kf env' h3 τ h H locs ls (zG_env g h4 gst)
  · rw [ex]
    refine lv_ifnonnull hexec hb hdg ht ?_
    obtain ⟨env', h3, h4⟩ := z_br (cd := 1) (a := a) (b := (0, 0, 0)) g.1 (by rw [z_e0 g.1 hc0 0 0]; exact h1)
    exact kt env' h3 τ h H locs ls (zG_env g h4 gst)
end ZBR
