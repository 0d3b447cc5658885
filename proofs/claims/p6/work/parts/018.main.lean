variable {η : zRn}
/-! from the check to the contract -/
section ZMN
variable {kds : List zKD} {D : va_G} {cl : List vw_C} {cy : Nat → ClassId} {L : List Nat} {Θ : Nat → Option Nat} {h0 : Nat → Nat → Int} {eff : List (Nat × Nat × Nat)} {A : Nat → Prop} {nL : Nat}
variable {p : Program} {l : Launch} {e : Env} {R : Room} {s : State} {m : MethodId} {args : Array Value} {below : List Frame} {meth : Method} {c : Code}
variable {cc : ByteArray} {σ0 σA : List Int} {pc : Nat} {as as' : zAS} {tys : List (ClassId × FieldType)} {Ts : List Cond} {own : String} {M : zMD} {ret : Option FieldType} {outs : List zAS}
/-- all that the checker takes as known of the method's place -/
def zCx (η : zRn) (kds : List zKD) (D : va_G) (cl : List vw_C) (cy : Nat → ClassId) (L : List Nat) (Θ : Nat → Option Nat) (h0 : Nat → Nat → Int) (eff : List (Nat × Nat × Nat)) (A : Nat → Prop) (nL : Nat) (p : Program) (l : Launch) (e : Env) (R : Room) (s : State) (m : MethodId) (args : Array Value) (below : List Frame) (meth : Method) (c : Code)
    (cc : ByteArray) (σ0 : List Int) (tys : List (ClassId × FieldType)) (Ts : List Cond) (own : String) (M : zMD) (ret : Option FieldType) (outs : List zAS) : Prop :=
  (p.tables.exec = Jvm.exec ∧ c.code = cc ∧ (∀ w ∈ Ts, w.before args s = true) ∧ s.vm.findClass own = some m.cls ∧ va_K D cl tys s ∧ zTy cy tys ∧ L.Nodup ∧ (∀ a ∈ L, A a)) ∧
  ((∀ q ∈ M.2.1, zFok own Ts cl q) ∧ ((∀ q ∈ M.2.2.1.1, Cond.constant own q.1 (Int32.ofInt q.2) ∈ Ts) ∧ ∀ q ∈ M.2.2.1.2, Cond.constantLong own q.1 (Int64.ofInt q.2) ∈ Ts) ∧ (∀ q ∈ M.1, decode cc q.1 = .ok (q.2.1, q.2.2))) ∧
  ((∀ q ∈ M.2.2.2.1, ∀ C ∈ q.2, zHrun η kds D cl cy L Θ A s.heap nL p l e R s m args below meth c q.1 C) ∧
    (∀ q ∈ M.2.2.2.2.1, ∀ (Q : State → Prop) (σA : List Int) (as as' : zAS), q.2.2 as = some as' → zGo η kds D cl cy L Θ h0 eff A s.heap nL p l e R s m args below meth c Q σA (q.1 + q.2.1) as' → zGo η kds D cl cy L Θ h0 eff A s.heap nL p l e R s m args below meth c Q σA q.1 as)) ∧
  (meth.sig.returnType = ret ∧ meth.locks = false ∧ (∀ q, A q → q ∈ L))
theorem z_rt {h : Nat → Nat → Int} {H : Heap} {locs : List Loc} {ls : Array Slot} {τ κ : List Int} {v : Option Value} {t : State} (hA : ∀ q, A q → q ∈ L) (hp : σA = σ0 ++ κ) (g : zG η kds D cl cy L Θ h0 eff A s.heap nL as (σA ++ τ) h H locs ls) (hr : zrt σ0.length outs as = true) (hv : v.toList = as.2.2.1.map (zvo η (σA ++ τ))) (ht : t.heap = H) :
    zQ η kds D cl cy L Θ h0 σ0 outs eff args s (.returned v) t ∧ ∀ q ∈ locs, q.base ∈ L := by
  unfold zrt at hr
  rw [List.any_eq_true] at hr
  obtain ⟨o, ho, hr⟩ := hr
  rw [Bool.and_eq_true] at hr
  subst hp
  rw [List.append_assoc] at g hv
  obtain ⟨⟨ρ, hρ⟩, ⟨mE, -, -, mS, mV, mR, mH, mF, mX⟩, mst⟩ := z_mt hr.1 (of_decide_eq_true hr.2) g
  simp only at hρ mE mS mV mR mst
  rw [hρ] at mE mS mV mR mst
  refine ⟨⟨v, o, ρ, h, rfl, ho, mE, mS, by rw [hv, mst], mV, mR, by rw [ht]; exact mH, mX, ?_⟩, fun q hq => hA _ (mF.2.2 q hq)⟩
  refine ⟨by rw [ht]; exact mF.1, fun q h1 h2 => ?_⟩
  rw [ht]
  exact mF.2.1 q h1 (fun ha => h2 (hA q ha))
theorem z_tn {pc : Nat} {off : Int} (h : 0 ≤ (pc : Int) + off) : (pc : Int) + off = ((((pc : Int) + off).toNat : Nat) : Int) := by omega
theorem z_lko (l : List (Int × Int)) (d k : Int) : Op.lookupswitch.offset l d k = d ∨ ∃ o ∈ l, o.1 = k ∧ Op.lookupswitch.offset l d k = o.2 := by
  induction l with
  | nil => exact Or.inl rfl
  | cons q r ih =>
    obtain ⟨a, o⟩ := q
    rw [Op.lookupswitch.offset_cons]
    by_cases h : a = k
    · rw [if_pos h]
      exact Or.inr ⟨(a, o), List.mem_cons_self, h, rfl⟩
    · rw [if_neg h]
      rcases ih with ih | ⟨q, h1, h2, h3⟩
      · exact Or.inl ih
      · exact Or.inr ⟨q, List.mem_cons_of_mem _ h1, h2, h3⟩
theorem z_ex {Qc : State → Prop} (hQ : Qc = MQ below (zQ η kds D cl cy L Θ h0 σ0 outs eff) args s 0 0 (fun q => q ∈ L)) (X : zCx η kds D cl cy L Θ h0 eff A nL p l e R s m args below meth c cc σ0 tys Ts own M ret outs) {K : Nat → zAS → Bool} (hK : ∀ pc as, K pc as = true → zGo η kds D cl cy L Θ h0 eff A s.heap nL p l e R s m args below meth c Qc σA pc as) (hp : ∃ κ, σA = σ0 ++ κ)
    (h : zex kds nL eff ret outs σ0.length M K pc as = true) : zGo η kds D cl cy L Θ h0 eff A s.heap nL p l e R s m args below meth c Qc σA pc as := by
  obtain ⟨⟨hexec, hb, hts, hown, hKc, hT, hnd, hLA⟩, ⟨hfl, hcs, hcd⟩, ⟨hca, hsp⟩, hr, hlocks, hA⟩ := X
  obtain ⟨κ, hp⟩ := hp
  unfold zex at h
  split at h
  · cases h
  · rename_i ins len hin
    have hdg := hcd _ (z_lk hin)
    simp only at hdg
    split at h
    · rename_i f hf
      split at h
      · rename_i as' has
        exact hsp _ (z_lk hf) _ _ _ _ has (hK _ _ h)
      · cases h
    · split at h
      · rename_i off
        simp only [Bool.and_eq_true, decide_eq_true_eq] at h
        obtain ⟨rfl, h⟩ := h
        have h1 := h
        unfold ztg at h1
        rw [Bool.and_eq_true] at h1
        intro τ h' H locs ls g
        exact lv_goto hexec hb hdg (z_tn (of_decide_eq_true h1.1)) (hK _ _ h1.2 τ h' H locs ls g)
      · rename_i cd off
        split at h
        · rename_i b a st hs
          simp only [Bool.and_eq_true, decide_eq_true_eq] at h
          obtain ⟨⟨⟨⟨⟨rfl, h1⟩, h2⟩, h3⟩, h4⟩, h5⟩ := h
          exact zgo_icmp hexec hb hdg (z_tn h3) hs ⟨h1, h2⟩ (z_ob (z_tgk hK rfl) h4) (z_ob (hK _) h5)
        · cases h
      · rename_i cd off
        split at h
        · rename_i a st hs
          simp only [Bool.and_eq_true, decide_eq_true_eq] at h
          obtain ⟨⟨⟨⟨⟨rfl, h1⟩, h2⟩, h3⟩, h4⟩, h5⟩ := h
          exact zgo_if hexec hb hdg (z_tn h3) hs h1 h2 (z_ob (z_tgk hK rfl) h4) (z_ob (hK _) h5)
        · cases h
      · rename_i off
        split at h
        · rename_i a st hs
          simp only [Bool.and_eq_true, decide_eq_true_eq] at h
          obtain ⟨⟨⟨⟨⟨rfl, h1⟩, h2⟩, h3⟩, h4⟩, h5⟩ := h
          exact zgo_null hexec hb hdg (z_tn h3) hs (z_sub2 h1) h2 (z_ob (z_tgk hK rfl) h4) (z_ob (hK _) h5)
        · cases h
      · rename_i off
        split at h
        · rename_i a st hs
          simp only [Bool.and_eq_true, decide_eq_true_eq] at h
          obtain ⟨⟨⟨⟨⟨rfl, h1⟩, h2⟩, h3⟩, h4⟩, h5⟩ := h
          exact zgo_nonnull hexec hb hdg (z_tn h3) hs (z_sub2 h1) h2 (z_ob (z_tgk hK rfl) h4) (z_ob (hK _) h5)
        · cases h
      · split at h
        · rename_i b a st cd off ln hs hn
          simp only [Bool.and_eq_true, decide_eq_true_eq] at h
          obtain ⟨⟨⟨⟨⟨⟨rfl, rfl⟩, h1⟩, h2⟩, h3⟩, h4⟩, h5⟩ := h
          have hdg2 := hcd _ (z_lk hn)
          simp only at hdg2
          intro τ h' H locs ls g
          have gS := g.2.2.2.1
          rw [hs] at gS ⊢
          obtain ⟨x, ex, hx⟩ := z_cl (gS a (List.mem_cons_of_mem _ List.mem_cons_self)) h1
          obtain ⟨y, ey, hy⟩ := z_cl (gS b List.mem_cons_self) h2
          have gst : ∀ q ∈ st, zga Θ (σA ++ τ) q := fun q hq => gS q (List.mem_cons_of_mem _ (List.mem_cons_of_mem _ hq))
          rw [List.map_cons, List.map_cons, ex, ey]
          refine W.lcmp hexec hb hdg ?_
          refine z_ic0 hexec hb hdg2 (z_tn h3) (fun hc => ?_) (fun hc => ?_)
          · rw [z_lc, hx, hy] at hc
            obtain ⟨env', e1, e2⟩ := z_br g.1 hc
            exact z_ob (z_tgk hK rfl) h4 env' e1 τ h' H locs ls (zG_env g e2 gst)
          · rw [z_lc, hx, hy] at hc
            obtain ⟨env', e1, e2⟩ := z_br g.1 (z_not hc)
            exact z_ob (hK _) h5 env' e1 τ h' H locs ls (zG_env g e2 gst)
        · cases h
      · rename_i dflt lo hi offs
        split at h
        · rename_i a st hs
          simp only [Bool.and_eq_true, decide_eq_true_eq] at h
          obtain ⟨⟨⟨⟨⟨⟨⟨h1, h2⟩, h3⟩, h4⟩, h5⟩, h6⟩, h7⟩, h8⟩ := h
          intro τ h' H locs ls g
          have gS := g.2.2.2.1
          rw [hs] at gS ⊢
          obtain ⟨x, ex, hx⟩ := z_ci (gS a List.mem_cons_self) h1
          have gst : ∀ q ∈ st, zga Θ (σA ++ τ) q := fun q hq => gS q (List.mem_cons_of_mem _ hq)
          rw [List.map_cons, ex]
          by_cases c1 : x.toInt < lo
          · refine lv_tableOut hexec hb hdg (Or.inl c1) (z_tn h4) ?_
            obtain ⟨env', e1, e2⟩ := z_br (cd := 0) (a := a) (b := (0, 0, lo)) g.1 (by rw [z_e0 g.1 h2, ← hx]; exact c1)
            exact z_ob (z_tgk hK rfl) h7 env' e1 τ h' H locs ls (zG_env g e2 gst)
          · by_cases c2 : hi < x.toInt
            · refine lv_tableOut hexec hb hdg (Or.inr c2) (z_tn h4) ?_
              obtain ⟨env', e1, e2⟩ := z_br (cd := 2) (a := a) (b := (0, 0, hi)) g.1 (by rw [z_e0 g.1 h2, ← hx]; exact c2)
              exact z_ob (z_tgk hK rfl) h8 env' e1 τ h' H locs ls (zG_env g e2 gst)
            · have hlt : (x.toInt - lo).toNat < offs.toList.length := by omega
              have ho : offs.toList[(x.toInt - lo).toNat]? = some (offs.toList[(x.toInt - lo).toNat]) := List.getElem?_eq_getElem hlt
              have hnn := of_decide_eq_true (List.all_eq_true.mp h5 _ (List.mem_of_getElem? ho))
              refine lv_tableIn hexec hb hdg c1 c2 (off := offs.toList[(x.toInt - lo).toNat]) (by rw [← Array.getElem?_toList]; exact ho) (z_tn hnn) ?_
              have sw := z_sw h6 _ _ ho
              rw [Nat.zero_add, show lo + (((x.toInt - lo).toNat : Nat) : Int) = x.toInt by omega] at sw
              obtain ⟨env', e1, e2⟩ := z_br (cd := 4) (a := a) (b := (0, 0, x.toInt)) g.1 (by rw [z_e0 g.1 h2, ← hx]; exact rfl)
              exact z_ob (z_tgk hK rfl) sw env' e1 τ h' H locs ls (zG_env g e2 gst)
        · cases h
      · rename_i dflt ps
        split at h
        · rename_i a st hs
          simp only [Bool.and_eq_true, decide_eq_true_eq] at h
          obtain ⟨⟨⟨⟨⟨h1, h2⟩, h3⟩, h4⟩, h5⟩, h6⟩ := h
          intro τ h' H locs ls g
          have gS := g.2.2.2.1
          rw [hs] at gS ⊢
          obtain ⟨x, ex, hx⟩ := z_ci (gS a List.mem_cons_self) h1
          have gst : ∀ q ∈ st, zga Θ (σA ++ τ) q := fun q hq => gS q (List.mem_cons_of_mem _ hq)
          rw [List.map_cons, ex]
          rcases z_lko ps.toList dflt x.toInt with ho | ⟨o, hm, ho1, ho2⟩
          · refine lv_lookup hexec hb hdg h4 ho (z_tn h3) ?_
            exact z_tgk hK rfl _ h6 τ h' H locs ls (zG_env g g.1 gst)
          · have hh := List.all_eq_true.mp h5 o hm
            rw [Bool.and_eq_true] at hh
            refine lv_lookup hexec hb hdg h4 ho2 (z_tn (of_decide_eq_true hh.1)) ?_
            obtain ⟨env', e1, e2⟩ := z_br (cd := 4) (a := a) (b := (0, 0, o.1)) g.1 (by rw [z_e0 g.1 h2, ← hx, ho1]; exact rfl)
            exact z_ob (z_tgk hK rfl) hh.2 env' e1 τ h' H locs ls (zG_env g e2 gst)
        · cases h
      · split at h
        · rename_i a hs
          simp only [Bool.and_eq_true, decide_eq_true_eq, Bool.or_eq_true] at h
          obtain ⟨⟨⟨rfl, h1⟩, h2⟩, h3⟩ := h
          intro τ h' H locs ls g
          have gS := g.2.2.2.1
          rw [hs] at gS
          have ga := gS a List.mem_cons_self
          obtain ⟨x, ex, hx⟩ := z_ci ga h1
          have hv : (some (Value.int x)).toList = as.2.2.1.map (zvo η (σA ++ τ)) := by rw [hs, List.map_cons, ex]; rfl
          rw [← hv, hQ]
          have hbase := (z_rt (args := args) (t := { s with heap := H }) hA hp g h3 hv rfl).2
          rcases h2 with h2 | h2
          · exact W.iret hexec hb (hr.trans h2) (fun t ht _ => (z_rt hA hp g h3 hv ht).1) hbase hdg hlocks
          · obtain ⟨-, b1, b2, b3⟩ := z_fits h2.2 g.1 ga
            have := z_b01 ⟨(zev (σA ++ τ) a).toNat, by simp only at b2 b3; omega⟩
            simp only at this b2 b3
            rw [show (((zev (σA ++ τ) a).toNat : Nat) : Int) = x.toInt by omega, z_ofi] at this
            exact W.zret hexec hb (hr.trans h2.1) this.1 (fun t ht _ => (z_rt hA hp g h3 hv ht).1) hbase hdg hlocks
        · cases h
      · split at h
        · rename_i a cn hs
          simp only [Bool.and_eq_true, decide_eq_true_eq] at h
          obtain ⟨⟨rfl, h1⟩, h3⟩ := h
          intro τ h' H locs ls g
          have hv : (some (zvo η (σA ++ τ) a)).toList = as.2.2.1.map (zvo η (σA ++ τ)) := by rw [hs]; rfl
          rw [← hv, hQ]
          have hbase := (z_rt (args := args) (t := { s with heap := H }) hA hp g h3 hv rfl).2
          exact W.aret hexec hb hr (Or.inl ⟨_, rfl⟩) (z_vA (decide_eq_true h1)) (fun t ht _ => (z_rt hA hp g h3 hv ht).1) hbase hdg hlocks
        · cases h
      · split at h
        · rename_i hs
          simp only [Bool.and_eq_true, decide_eq_true_eq] at h
          obtain ⟨⟨rfl, h1⟩, h3⟩ := h
          intro τ h' H locs ls g
          have hv : (none : Option Value).toList = as.2.2.1.map (zvo η (σA ++ τ)) := by rw [hs]; rfl
          rw [← hv, hQ]
          have hbase := (z_rt (args := args) (t := { s with heap := H }) hA hp g h3 hv rfl).2
          exact W.vret hexec hb (hr.trans h1) (fun t ht _ => (z_rt hA hp g h3 hv ht).1) hbase hdg hlocks
        · cases h
      · split at h
        · rename_i Cs hCs
          simp only [Bool.and_eq_true, decide_eq_true_eq] at h
          obtain ⟨rfl, h⟩ := h
          rw [List.any_eq_true] at h
          obtain ⟨C, hC, h⟩ := h
          exact zgo_cal hLA (hca _ (z_lk hCs) C hC) (hK _) h
        · cases h
      · split at h
        · rename_i Cs hCs
          simp only [Bool.and_eq_true, decide_eq_true_eq] at h
          obtain ⟨rfl, h⟩ := h
          rw [List.any_eq_true] at h
          obtain ⟨C, hC, h⟩ := h
          exact zgo_cal hLA (hca _ (z_lk hCs) C hC) (hK _) h
        · cases h
      · simp only [Bool.and_eq_true, decide_eq_true_eq] at h
        obtain ⟨rfl, h⟩ := h
        split at h
        · rename_i as' has
          exact z_stp hexec hb hts hown hKc hT hnd hLA hfl hcs hdg has (hK _ _ h)
        · cases h
theorem z_spl {Qc : State → Prop} {i : Nat} {K : zAS → Bool} (hK : ∀ as', K as' = true → zGo η kds D cl cy L Θ h0 eff A s.heap nL p l e R s m args below meth c Qc σA pc as') : ∀ {n : Nat} {v : Int}, zspl as i K n v = true → ∀ x, v ≤ x → x < v + n → zGo η kds D cl cy L Θ h0 eff A s.heap nL p l e R s m args below meth c Qc σA pc (as.1.set i (x, x), as.2.1, as.2.2.1, as.2.2.2) := by
  intro n
  induction n with
  | zero => intro v _ x h1 h2; omega
  | succ n ih =>
    intro v h x h1 h2
    unfold zspl at h
    rw [Bool.and_eq_true] at h
    by_cases e : x = v
    · subst e
      exact hK _ h.1
    · exact ih h.2 x (by omega) (by omega)
theorem z_exs {Qc : State → Prop} (hQ : Qc = MQ below (zQ η kds D cl cy L Θ h0 σ0 outs eff) args s 0 0 (fun q => q ∈ L)) (X : zCx η kds D cl cy L Θ h0 eff A nL p l e R s m args below meth c cc σ0 tys Ts own M ret outs) {K : Nat → zAS → Bool} (hK : ∀ pc as, K pc as = true → zGo η kds D cl cy L Θ h0 eff A s.heap nL p l e R s m args below meth c Qc σA pc as) (hp : ∃ κ, σA = σ0 ++ κ)
    (h : zexs kds nL eff ret outs σ0.length M K pc as = true) : zGo η kds D cl cy L Θ h0 eff A s.heap nL p l e R s m args below meth c Qc σA pc as := by
  unfold zexs at h
  split at h
  · split at h
    · rename_i a st hs
      split at h
      · rename_i q hq
        intro τ h' H locs ls g
        have b := g.1.2 _ _ hq
        split at h
        case isFalse =>
          rw [Bool.and_eq_true] at h
          by_cases e : (σA ++ τ).getD a.2.1 0 = q.2
          · exact z_ex hQ X hK hp h.2 τ h' H locs ls (zG_env g (z_set g.1 (by simp only; omega) (by simp only; omega)) g.2.2.2.1)
          · exact z_ex hQ X hK hp h.1 τ h' H locs ls (zG_env g (z_set g.1 (by simp only; omega) (by simp only; omega)) g.2.2.2.1)
        have := z_spl (Qc := Qc) (fun as' hh => z_ex hQ X hK hp hh) h ((σA ++ τ).getD a.2.1 0) b.1 (by omega) τ h' H locs ls (zG_env g (z_set g.1 (Int.le_refl _) (Int.le_refl _)) g.2.2.2.1)
        exact this
      · cases h
    · cases h
  · exact z_ex hQ X hK hp h
theorem z_chk {Qc : State → Prop} (hQ : Qc = MQ below (zQ η kds D cl cy L Θ h0 σ0 outs eff) args s 0 0 (fun q => q ∈ L)) (X : zCx η kds D cl cy L Θ h0 eff A nL p l e R s m args below meth c cc σ0 tys Ts own M ret outs) (hp : ∃ κ, σA = σ0 ++ κ) {rk : zRK} (hrk : ∀ q ∈ rk.2, q.1 < σA.length)
    (hI : ∀ t ∈ M.2.2.2.2.2.1, ∀ (σ : List Int) (h : Nat → Nat → Int) (H : Heap) (locs : List Loc) (ls : Array Slot), (∃ κ, σ = σ0 ++ κ) → zG η kds D cl cy L Θ h0 eff A s.heap nL t.2.1 σ h H locs ls → zrk σ t.2.2 < zrk σA rk → W p l e R s m args below meth c H locs 0 0 Qc (F0 m t.1 ls (t.2.1.2.2.1.map (zvo η σ)))) :
    ∀ {n pc : Nat} {as : zAS}, zchk kds nL eff ret outs σ0.length M rk n pc as = true → zGo η kds D cl cy L Θ h0 eff A s.heap nL p l e R s m args below meth c Qc σA pc as := by
  intro n
  induction n with
  | zero => intro pc as h; cases h
  | succ n ih =>
    intro pc as h
    unfold zchk at h
    split at h
    · rename_i he
      exact zgo_emp he
    · split at h
      · exact z_exs hQ X (fun pc as hh => ih hh) hp h
      · rename_i ts hts
        rw [List.any_eq_true] at h
        obtain ⟨t, ht, h⟩ := h
        have htm : t ∈ M.2.2.2.2.2.1 ∧ t.1 = pc := by
          have := List.mem_filter.mp ht
          exact ⟨this.1, of_decide_eq_true this.2⟩
        rw [Bool.and_eq_true] at h
        replace h := h.2
        unfold zfor at h
        simp only [Bool.and_eq_true, decide_eq_true_eq] at h
        obtain ⟨⟨h1, h2⟩, h3⟩ := h
        intro τ h' H locs ls g
        obtain ⟨κ, hκ⟩ := hp
        have g2 := g
        rw [hκ, List.append_assoc] at g2
        obtain ⟨hρ, mG, mst⟩ := z_mt h1 h2 g2
        have hn : ∀ j x, zsb (zbs σ0.length as t.2.1) j = some x → j < t.2.1.1.length := by
          unfold zmt at h1
          simp only [Bool.and_eq_true] at h1
          exact z_ckn h1.1.1.1.1.1.1
        have hl := z_less g2.1 g2.2.2.2.2.2.1 hn h3
        have hlt : zrk (σ0 ++ (κ ++ τ)) rk = zrk σA rk := by
          rw [← List.append_assoc, ← hκ]
          exact z_rkapp hrk
        rw [hlt] at hl
        have w := hI t htm.1 _ h' H locs ls hρ mG hl
        rw [htm.2, mst, ← List.append_assoc, ← hκ] at w
        exact w
end ZMN
