variable {η : zRn}
/-! arrays -/
/-- the type of all slots from lo to lo + n -/
def zel (K : zKD) : Nat → Nat → Option (Nat × Int × Int)
  | lo, 0 => some (zty K lo)
  | lo, n + 1 => match zel K (lo + 1) n with
    | some r => if (zty K lo).1 = r.1 then some (r.1, min r.2.1 (zty K lo).2.1, max r.2.2 (zty K lo).2.2) else none
    | none => none
def zelm (K : zKD) (lo hi : Nat) : Option (Nat × Int × Int) := if K.2.2.2.length = 1 then some (zty K 0) else zel K lo (hi - lo)
theorem z_el {K : zKD} : ∀ {n lo : Nat} {r : Nat × Int × Int}, zel K lo n = some r → ∀ j, lo ≤ j → j ≤ lo + n → (zty K j).1 = r.1 ∧ r.2.1 ≤ (zty K j).2.1 ∧ (zty K j).2.2 ≤ r.2.2 := by
  intro n
  induction n with
  | zero =>
    intro lo r h j h1 h2
    have : j = lo := by omega
    subst this
    cases h
    exact ⟨rfl, Int.le_refl _, Int.le_refl _⟩
  | succ n ih =>
    intro lo r h j h1 h2
    unfold zel at h
    split at h
    · rename_i q hq
      split at h
      · rename_i e
        cases h
        simp only
        by_cases ej : j = lo
        · subst ej
          exact ⟨e, by omega, by omega⟩
        · obtain ⟨f1, f2, f3⟩ := ih hq j (by omega) (by omega)
          exact ⟨f1, by omega, by omega⟩
      · cases h
    · cases h
theorem z_elm {K : zKD} {lo hi : Nat} {r : Nat × Int × Int} (h : zelm K lo hi = some r) {j : Nat} (h1 : lo ≤ j) (h2 : j ≤ hi) : (zty K j).1 = r.1 ∧ r.2.1 ≤ (zty K j).2.1 ∧ (zty K j).2.2 ≤ r.2.2 := by
  unfold zelm at h
  split at h
  · rename_i e
    cases h
    have : zty K j = zty K 0 := by
      unfold zty
      rw [e, Nat.mod_one, Nat.mod_one]
    rw [this]
    exact ⟨rfl, Int.le_refl _, Int.le_refl _⟩
  · exact z_el h j h1 (by omega)
/-- an element is read -/
def zald (kds : List zKD) (env : List zIV) (ov : List zOV) (kk sy : Nat) (K : zKD) (q : zIV) : Option (List zIV × List zOV × zAV) :=
  if q.1 = q.2 then zrd kds env ov kk sy q.1.toNat
  else match zelm K q.1.toNat q.2.toNat with
    | some r => some (env ++ [(r.2.1, r.2.2)], ov, (r.1, env.length, 0))
    | none => none
section ZAR
variable {kds : List zKD} {D : va_G} {cl : List vw_C} {cy : Nat → ClassId} {L : List Nat} {Θ : Nat → Option Nat} {h0 : Nat → Nat → Int} {eff : List (Nat × Nat × Nat)} {A : Nat → Prop} {H0 : Heap} {nL : Nat}
theorem z_ald {env env' : List zIV} {ov ov' : List zOV} {kk sy : Nat} {K : zKD} {q : zIV} {v : zAV} {σ : List Int} {h : Nat → Nat → Int} {H : Heap} (hr : zald kds env ov kk sy K q = some (env', ov', v)) (hK : kds[kk]? = some K) (gE : zge σ env) (gV : zgv Θ h σ ov) (gH : zH η kds D cl cy L Θ h H) (hs : sy < σ.length) (h1 : 0 ≤ σ.getD sy 0) (h2 : Θ (σ.getD sy 0).toNat = some kk)
    {i : Int} (hi : q.1 ≤ i ∧ i ≤ q.2) (hq0 : 0 ≤ q.1) (hqn : q.2 < (K.2.2.1 : Int)) :
    ∃ τ : List Int, zge (σ ++ τ) env' ∧ zgv Θ h (σ ++ τ) ov' ∧ zga Θ (σ ++ τ) v ∧ zev (σ ++ τ) v = h (σ.getD sy 0).toNat i.toNat ∧ v.1 = (zty K i.toNat).1 := by
  unfold zald at hr
  split at hr
  · rename_i e
    have ei : i = q.1 := by omega
    subst ei
    obtain ⟨τ, g1, g2, g3, g4, K', g5, g6, g7⟩ := z_rd hr gE gV gH hs h1 h2
    cases hK.symm.trans g5
    exact ⟨τ, g1, g2, g3, g4, g7⟩
  · split at hr
    · rename_i r hz
      cases hr
      obtain ⟨e1, e2, e3⟩ := z_elm hz (j := i.toNat) (by omega) (by omega)
      obtain ⟨b1, b2, b3⟩ := zH_in gH h2 hK (j := i.toNat) (by omega)
      have ev : zev (σ ++ [h (σ.getD sy 0).toNat i.toNat]) (r.1, env.length, 0) = h (σ.getD sy 0).toNat i.toNat := by
        unfold zev
        simp only
        rw [z_gn gE]; simp
      refine ⟨[h (σ.getD sy 0).toNat i.toNat], z_ge gE (by simp only; omega) (by simp only; omega), z_gv gV, ⟨z_len gE, ?_⟩, ev, e1.symm⟩
      rw [ev, ← e1]
      exact b1
    · cases hr
/-- an element is written: what is known of the others of this kind in the range goes -/
def zwra (ov : List zOV) (kk sy : Nat) (q : zIV) (v : zAV) : List zOV :=
  if q.1 = q.2 then zwr ov kk sy q.1.toNat v else ov.filter (fun o => !(decide (o.1.1 = kk) && decide (q.1.toNat ≤ o.2.1) && decide (o.2.1 ≤ q.2.toNat)))
theorem z_wra {ov : List zOV} {kk sy : Nat} {q : zIV} {v : zAV} {σ : List Int} {h : Nat → Nat → Int} {i : Int} (gV : zgv Θ h σ ov) (hv : zga Θ σ v) (hs : sy < σ.length) (h1 : 0 ≤ σ.getD sy 0) (h2 : Θ (σ.getD sy 0).toNat = some kk) (hi : q.1 ≤ i ∧ i ≤ q.2) (hq0 : 0 ≤ q.1) : zgv Θ (zup h (σ.getD sy 0).toNat i.toNat (zev σ v)) σ (zwra ov kk sy q v) := by
  unfold zwra
  split
  · have ei : i = q.1 := by omega
    subst ei
    exact z_wr gV hv hs h1 h2
  · intro o ho
    obtain ⟨ho, hne⟩ := List.mem_filter.mp ho
    obtain ⟨g1, g2, g3, g4, g5⟩ := gV o ho
    refine ⟨g1, g2, g3, g4, ?_⟩
    rw [zup_ne]
    · exact g5
    · rintro ⟨e1, e2⟩
      rw [e1, h2] at g4
      cases g4
      rw [e2] at hne
      have t : (decide (o.1.1 = o.1.1) && decide (q.1.toNat ≤ i.toNat) && decide (i.toNat ≤ q.2.toNat)) = true := by
        simp only [Bool.and_eq_true, decide_eq_true_eq]
        exact ⟨⟨by simp, by omega⟩, by omega⟩
      rw [t] at hne
      cases hne
/-- a value fits all slots from lo to lo + n -/
def zfall (env : List zIV) (K : zKD) (v : zAV) : Nat → Nat → Bool
  | lo, 0 => zfits env (zty K lo) v
  | lo, n + 1 => zfits env (zty K lo) v && zfall env K v (lo + 1) n
def zfalm (env : List zIV) (K : zKD) (v : zAV) (lo hi : Nat) : Bool := if K.2.2.2.length = 1 then zfits env (zty K 0) v else zfall env K v lo (hi - lo)
theorem z_fall {env : List zIV} {K : zKD} {v : zAV} : ∀ {n lo : Nat}, zfall env K v lo n = true → ∀ j, lo ≤ j → j ≤ lo + n → zfits env (zty K j) v = true := by
  intro n
  induction n with
  | zero =>
    intro lo h j h1 h2
    have : j = lo := by omega
    subst this
    exact h
  | succ n ih =>
    intro lo h j h1 h2
    unfold zfall at h
    rw [Bool.and_eq_true] at h
    by_cases ej : j = lo
    · subst ej
      exact h.1
    · exact ih h.2 j (by omega) (by omega)
theorem z_falm {env : List zIV} {K : zKD} {v : zAV} {lo hi j : Nat} (h : zfalm env K v lo hi = true) (h1 : lo ≤ j) (h2 : j ≤ hi) : zfits env (zty K j) v = true := by
  unfold zfalm at h
  split at h
  · rename_i e
    have : zty K j = zty K 0 := by
      unfold zty
      rw [e, Nat.mod_one, Nat.mod_one]
    rw [this]
    exact h
  · exact z_fall h j h1 (by omega)
theorem z_vin {i : Int32} {n : Nat} (h1 : 0 ≤ i.toInt) (h2 : i.toInt < (n : Int)) : vp_in i n ∧ i.toNatClampNeg = i.toInt.toNat := by
  refine ⟨fun q => ?_, rfl⟩
  rcases q with q | q
  · have := Int32.lt_iff_toInt_lt.mp q
    rw [show (0 : Int32).toInt = 0 from rfl] at this
    omega
  · rw [show i.toNatClampNeg = i.toInt.toNat from rfl] at q
    omega
variable {p : Program} {l : Launch} {e : Env} {R : Room} {s : State} {m : MethodId} {args : Array Value} {below : List Frame} {meth : Method} {c : Code} {Q : State → Prop}
variable {cc : ByteArray} {σA : List Int} {pc : Nat} {as : zAS} {tys : List (ClassId × FieldType)}
/-- an array's element comes on the stack: the index b, the array a -/
theorem zgo_ald {kk : Nat} {a b v : zAV} {st : List zAV} {env' : List zIV} {ov' : List zOV} {K : zKD} {q : zIV} (hs : as.2.2.1 = b :: a :: st) (ht : a.1 = kk + 2) (hbt : b.1 = 0) (hn : znn as.1 a = true) (hKd : kds[kk]? = some K) (hKf : K.1 ≤ 2) (hq : ziv as.1 b = some q) (hq0 : 0 ≤ q.1) (hqn : q.2 < (K.2.2.1 : Int)) (hr : zald kds as.1 as.2.2.2.1 kk a.2.1 K q = some (env', ov', v))
    (hw : ∀ (i : Int32) (ad : Nat) (g : Nat → Int) (H : Heap) (locs : List Loc) (ls : Array Slot) (rest : List Value) (ws : va_W) (q0 : Nat), va_P D cl ws H → ws[q0]? = some (ad, zE η cy K g) → vp_in i K.2.2.1 → i.toNatClampNeg = i.toInt.toNat → (zty K i.toInt.toNat).1 = v.1 →
      W p l e R s m args below meth c H locs 0 0 Q (F0 m (pc + 1) ls (zdec η v.1 (g i.toInt.toNat) :: rest)) → W p l e R s m args below meth c H locs 0 0 Q (F0 m pc ls (.int i :: .ref ad :: rest)))
    (k' : zGo η kds D cl cy L Θ h0 eff A H0 nL p l e R s m args below meth c Q σA (pc + 1) (env', as.2.1, v :: st, ov', as.2.2.2.2)) : zGo η kds D cl cy L Θ h0 eff A H0 nL p l e R s m args below meth c Q σA pc as := by
  intro τ h H locs ls g
  obtain ⟨gE, gL, hl, gS, gV, gR, gH, gF, gX⟩ := g
  rw [hs] at gS ⊢
  have gb := gS b List.mem_cons_self
  have ga := gS a (List.mem_cons_of_mem _ List.mem_cons_self)
  obtain ⟨ea, na, Θa⟩ := z_nnr hn gE ga ht
  obtain ⟨i, ei, hi⟩ := z_ci gb hbt
  have bi := z_iv gE hq
  rw [← hi] at bi
  obtain ⟨τ', gE', gV', gv, ev, hvt⟩ := z_ald hr hKd gE gV gH ga.1 na Θa bi hq0 hqn
  obtain ⟨q0, hq0'⟩ := zH_get gH Θa hKd hKf
  obtain ⟨v1, v2⟩ := z_vin (i := i) (n := K.2.2.1) (by omega) (by omega)
  rw [List.map_cons, List.map_cons, ea, ei]
  refine hw i _ _ H locs ls _ _ q0 gH.1 hq0' v1 v2 hvt.symm ?_
  have gst : ∀ q ∈ st, zga Θ (σA ++ τ) q := fun q hq => gS q (List.mem_cons_of_mem _ (List.mem_cons_of_mem _ hq))
  have w := k' (τ ++ τ') h H locs ls ⟨by rw [← List.append_assoc]; exact gE', fun q hq => by rw [← List.append_assoc]; exact z_ga (gL q hq), by rw [← List.append_assoc]; exact z_lv gL hl, ?_, by rw [← List.append_assoc]; exact gV', by rw [← List.append_assoc]; exact z_gr gR, gH, gF, gX⟩
  · simp only [List.map_cons, ← List.append_assoc] at w
    rw [z_st gst] at w
    have evv : zvo η (σA ++ τ ++ τ') v = zdec η v.1 (h ((σA ++ τ).getD a.2.1 0).toNat i.toInt.toNat) := by unfold zvo; rw [ev]
    rw [evv] at w
    exact w
  · intro b' hb'
    rw [← List.append_assoc]
    rcases List.mem_cons.mp hb' with rfl | hb'
    · exact gv
    · exact z_ga (gst b' hb')
/-- a number is written into an array; the machine may make it narrower: y behind x -/
theorem zgo_ast (hnd : L.Nodup) (hLA : ∀ a ∈ L, A a) {kk : Nat} {a b v : zAV} {st : List zAV} {K : zKD} {q : zIV} (hs : as.2.2.1 = v :: b :: a :: st) (ht : a.1 = kk + 2) (hbt : b.1 = 0) (hvt : v.1 = 0) (hn : znn as.1 a = true) (hKd : kds[kk]? = some K) (hKf : K.1 = 1) (hq : ziv as.1 b = some q) (hq0 : 0 ≤ q.1) (hqn : q.2 < (K.2.2.1 : Int))
    (hfit : zfalm as.1 K v q.1.toNat q.2.toNat = true) (hef : zinE eff kk q.1.toNat q.2.toNat = true)
    (hw : ∀ (i x : Int32) (ad : Nat) (f : Nat → Int32) (H : Heap) (locs : List Loc) (ls : Array Slot) (rest : List Value) (ws : va_W) (q0 : Nat), va_P D cl ws H → va_D A ws → va_S A H0 H locs → ws[q0]? = some (ad, .inl (cy K.2.1, K.2.2.1, .inl f)) → vp_in i K.2.2.1 → i.toNatClampNeg = i.toInt.toNat → (zty K i.toInt.toNat).2.1 ≤ x.toInt → x.toInt ≤ (zty K i.toInt.toNat).2.2 →
      (∀ (H1 : Heap) (locs1 : List Loc), va_P D cl (ws.set q0 (ad, .inl (cy K.2.1, K.2.2.1, .inl (upd f i.toInt.toNat x)))) H1 → va_S A H0 H1 locs1 → W p l e R s m args below meth c H1 locs1 0 0 Q (F0 m (pc + 1) ls rest)) → W p l e R s m args below meth c H locs 0 0 Q (F0 m pc ls (.int x :: .int i :: .ref ad :: rest)))
    (k' : zGo η kds D cl cy L Θ h0 eff A H0 nL p l e R s m args below meth c Q σA (pc + 1) (as.1, as.2.1, st, zwra as.2.2.2.1 kk a.2.1 q v, as.2.2.2.2)) : zGo η kds D cl cy L Θ h0 eff A H0 nL p l e R s m args below meth c Q σA pc as := by
  intro τ h H locs ls g
  obtain ⟨gE, gL, hl, gS, gV, gR, gH, gF, gX⟩ := g
  rw [hs] at gS ⊢
  have gv := gS v List.mem_cons_self
  have gb := gS b (List.mem_cons_of_mem _ List.mem_cons_self)
  have ga := gS a (List.mem_cons_of_mem _ (List.mem_cons_of_mem _ List.mem_cons_self))
  obtain ⟨ea, na, Θa⟩ := z_nnr hn gE ga ht
  obtain ⟨i, ei, hi⟩ := z_ci gb hbt
  obtain ⟨x, ex, hx⟩ := z_ci gv hvt
  have bi := z_iv gE hq
  rw [← hi] at bi
  obtain ⟨q0, hq0'⟩ := zH_get gH Θa hKd (by omega)
  have hq1 := hq0'
  rw [zE_i hKf] at hq1
  obtain ⟨v1, v2⟩ := z_vin (i := i) (n := K.2.2.1) (by omega) (by omega)
  have hD : va_D A ([] ++ va_pl L (zF η kds cy Θ h)) := z_D hnd hLA
  obtain ⟨t1, b1, b2, b3⟩ := z_fits (z_falm hfit (j := i.toInt.toNat) (by omega) (by omega)) gE gv
  rw [List.map_cons, List.map_cons, List.map_cons, ea, ei, ex]
  refine hw i x _ _ H locs ls _ _ q0 gH.1 hD gF hq1 v1 v2 (by rw [hx]; exact b2) (by rw [hx]; exact b3) (fun H1 locs1 hP1 hS1 => ?_)
  have gH1 : zH η kds D cl cy L Θ (zup h ((σA ++ τ).getD a.2.1 0).toNat i.toInt.toNat (zev (σA ++ τ) v)) H1 := by
    refine zH_put gH hD Θa hKd (by omega) (by omega) ⟨b1, b2, b3⟩ hq0' ?_
    rw [zE_i hKf]
    have ef : (fun j => Int32.ofInt (zup h ((σA ++ τ).getD a.2.1 0).toNat i.toInt.toNat (zev (σA ++ τ) v) ((σA ++ τ).getD a.2.1 0).toNat j)) = upd (fun j => Int32.ofInt (h ((σA ++ τ).getD a.2.1 0).toNat j)) i.toInt.toNat x := by
      funext j
      unfold upd
      split
      · rename_i e
        subst e
        rw [zup_at, ← hx, z_ofi]
      · rename_i e
        rw [zup_ne (fun q => e q.2)]
    rw [ef]
    exact hP1
  refine k' τ _ H1 locs1 ls ⟨gE, gL, hl, fun q hq => gS q (List.mem_cons_of_mem _ (List.mem_cons_of_mem _ (List.mem_cons_of_mem _ hq))), z_wra gV gv ga.1 na Θa bi hq0, gR, gH1, hS1, fun b' kb j hb hj => ?_⟩
  rw [zup_ne]
  · exact gX b' kb j hb hj
  · rintro ⟨rfl, rfl⟩
    cases Θa.symm.trans hb
    rw [z_iE hef (by omega) (by omega)] at hj
    cases hj
end ZAR
