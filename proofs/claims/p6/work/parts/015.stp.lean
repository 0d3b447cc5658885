variable {η : zRn}
/-! all the straight instructions -/
section ZSP
variable {kds : List zKD} {D : va_G} {cl : List vw_C} {cy : Nat → ClassId} {L : List Nat} {Θ : Nat → Option Nat} {h0 : Nat → Nat → Int} {eff : List (Nat × Nat × Nat)} {A : Nat → Prop} {H0 : Heap} {nL : Nat}
variable {p : Program} {l : Launch} {e : Env} {R : Room} {s : State} {m : MethodId} {args : Array Value} {below : List Frame} {meth : Method} {c : Code} {Q : State → Prop}
variable {cc : ByteArray} {σA : List Int} {pc : Nat} {as as' : zAS} {tys : List (ClassId × FieldType)} {Ts : List Cond} {own : String} {fl : zFL} {cs : List (Nat × Int) × List (Nat × Int)}
theorem z_nz {y : Int32} (h : 1 ≤ y.toInt) : ¬ y = 0 := by
  intro e
  rw [e, show (0 : Int32).toInt = 0 from rfl] at h
  omega
theorem z_rem {x y : Int32} (hy : 1 ≤ y.toInt) : x - x / y * y = x % y := by
  apply Int32.toInt_inj.mp
  rw [Int32.toInt_mod]
  have d := z_div (x := x) hy
  have t := Int.tmod_def x.toInt y.toInt
  have b1 := z_lo x
  have b2 := z_hi x
  have t2 : min 0 x.toInt ≤ x.toInt.tmod y.toInt ∧ x.toInt.tmod y.toInt ≤ max 0 x.toInt := by
    rcases Int.le_total 0 x.toInt with hx | hx
    · have e1 := Int.tmod_nonneg y.toInt hx
      have e2 : 0 ≤ x.toInt.tdiv y.toInt := Int.tdiv_nonneg hx (by omega)
      have e3 : 0 ≤ y.toInt * x.toInt.tdiv y.toInt := Int.mul_nonneg (by omega) e2
      omega
    · have hn : 0 ≤ -x.toInt := by omega
      have e1 := Int.tmod_nonneg y.toInt hn
      have e2 : 0 ≤ (-x.toInt).tdiv y.toInt := Int.tdiv_nonneg hn (by omega)
      have e3 : 0 ≤ y.toInt * (-x.toInt).tdiv y.toInt := Int.mul_nonneg (by omega) e2
      have e4 := Int.tmod_def (-x.toInt) y.toInt
      rw [Int.neg_tmod] at e1 e4
      omega
  have m1 : (x / y * y).toInt = x.toInt.tdiv y.toInt * y.toInt := by
    rw [← d]
    apply z_mul
    · rw [d, Int.mul_comm]; omega
    · rw [d, Int.mul_comm]; omega
  rw [Int.mul_comm] at m1
  have := z_sub (x := x) (y := x / y * y) (by rw [m1]; omega) (by rw [m1]; omega)
  rw [this, m1]
  omega
theorem z_sub2 {t : Nat} (h : 2 ≤ t) : t = (t - 2) + 2 := by omega
theorem zs_get (hexec : p.tables.exec = Jvm.exec) (hb : c.code = cc) (hts : ∀ w ∈ Ts, w.before args s = true) (hown : s.vm.findClass own = some m.cls) (hK : va_K D cl tys s) (hfl : ∀ q ∈ fl, zFok own Ts cl q) {idx : Nat} (hdg : decode cc pc = .ok (.getfield idx, 3)) (h : zo_get kds fl as idx = some as')
    (k : zGo η kds D cl cy L Θ h0 eff A H0 nL p l e R s m args below meth c Q σA (pc + 3) as') : zGo η kds D cl cy L Θ h0 eff A H0 nL p l e R s m args below meth c Q σA pc as := by
  unfold zo_get at h
  split at h
  · rename_i a st f hs hf
    split at h
    · rename_i K hKd
      split at h
      · rename_i hc
        simp only [Bool.and_eq_true, decide_eq_true_eq] at hc
        obtain ⟨⟨⟨c1, c2⟩, c3⟩, c4⟩ := hc
        split at h
        · rename_i x hx
          cases h
          obtain ⟨C, T, N, e1, e2, e3, e4, -⟩ := hfl _ (z_lk hf)
          exact zgo_get hexec hb hts hown hK e1 e2 e3 e4 hs (z_sub2 c1) c2 hKd ⟨c3, c4⟩ hx hdg k
        · cases h
      · cases h
    · cases h
  · cases h
theorem zs_put (hexec : p.tables.exec = Jvm.exec) (hb : c.code = cc) (hts : ∀ w ∈ Ts, w.before args s = true) (hown : s.vm.findClass own = some m.cls) (hK : va_K D cl tys s) (hnd : L.Nodup) (hLA : ∀ a ∈ L, A a) (hfl : ∀ q ∈ fl, zFok own Ts cl q) {idx : Nat} (hdg : decode cc pc = .ok (.putfield idx, 3)) (h : zo_put kds fl eff as idx = some as')
    (k : zGo η kds D cl cy L Θ h0 eff A H0 nL p l e R s m args below meth c Q σA (pc + 3) as') : zGo η kds D cl cy L Θ h0 eff A H0 nL p l e R s m args below meth c Q σA pc as := by
  unfold zo_put at h
  split at h
  · rename_i v a st f hs hf
    split at h
    · rename_i K ty hKd hty
      split at h
      · rename_i hc
        simp only [Bool.and_eq_true, decide_eq_true_eq] at hc
        obtain ⟨⟨⟨⟨⟨⟨c1, c2⟩, c3⟩, c4⟩, c5⟩, c6⟩, c7⟩ := hc
        split at h
        · rename_i w hw
          split at h
          · rename_i hfit
            cases h
            obtain ⟨C, T, N, e1, e2, e3, e4, e5⟩ := hfl _ (z_lk hf)
            obtain ⟨f1, ty0, f2, f3, f4⟩ := e5 ty hty
            simp only at f4
            exact zgo_put hexec hb hts hown hK hnd hLA e1 e2 ty0 f2 f3 e3 e4 f1 hs (z_sub2 c1) c2 hKd ⟨c3, c4⟩ c5 hw hfit (by rw [f4]; exact c6) c7 hdg k
          · cases h
        · cases h
      · cases h
    · cases h
  · cases h
theorem z_dq {t : Nat} {x : Int} (h : 2 ≤ t) : zdec η t x = va_rf (zrf η x) := by
  match t, h with
  | t + 2, _ => rfl
theorem z_con {ts : List Nat} {t : Nat} (h : ts.contains t = true) : t ∈ ts := by simpa using h
theorem zs_aldi (hexec : p.tables.exec = Jvm.exec) (hb : c.code = cc) (hK : va_K D cl tys s) (hT : zTy cy tys) {ts : List Nat} {ins : Jvm.ClassFile.Instr} (hi : (ins = .iaload ∧ ts = [0]) ∨ (ins = .baload ∧ ts = [1, 2])) (hdg : decode cc pc = .ok (ins, 1)) (h : zo_ald kds as 1 ts = some as')
    (k : zGo η kds D cl cy L Θ h0 eff A H0 nL p l e R s m args below meth c Q σA (pc + 1) as') : zGo η kds D cl cy L Θ h0 eff A H0 nL p l e R s m args below meth c Q σA pc as := by
  unfold zo_ald at h
  split at h
  · rename_i b a st hs
    split at h
    · rename_i K q hKd hq
      split at h
      · rename_i hc
        simp only [Bool.and_eq_true, decide_eq_true_eq] at hc
        obtain ⟨⟨⟨⟨⟨⟨c1, c2⟩, c3⟩, c4⟩, c5⟩, c6⟩, c7⟩ := hc
        split at h
        · rename_i x hx
          split at h
          · rename_i hx0
            have hx1 : x.2.2.1 = 0 := by simpa using hx0
            cases h
            refine zgo_ald hs (z_sub2 c1) c3 c2 hKd (by omega) hq c6 c7 hx (fun i ad g H locs ls rest ws q0 hP hw0 hin hcl htt w => ?_) k
            rw [zE_i c4] at hw0
            rw [hx1] at w
            have hmem := z_con c5
            rcases hi with ⟨rfl, rfl⟩ | ⟨rfl, rfl⟩
            · have e0 : K.2.1 = 0 := by simpa using hmem
              rw [e0] at hw0
              refine va_iald hexec hb hK hP q0 0 hw0 hT.1 hin hdg ?_
              rw [hcl]
              exact w
            · have e0 : K.2.1 = 1 ∨ K.2.1 = 2 := by simpa using hmem
              rcases e0 with e0 | e0
              · rw [e0] at hw0
                refine va_bald hexec hb hK hP q0 1 hw0 hT.2.1 hin hdg ?_
                rw [hcl]
                exact w
              · rw [e0] at hw0
                refine va_zald hexec hb hK hP q0 2 hw0 hT.2.2.1 hin hdg ?_
                rw [hcl]
                exact w
          · cases h
        · cases h
      · cases h
    · cases h
  · cases h
theorem zs_alda (hexec : p.tables.exec = Jvm.exec) (hb : c.code = cc) (hK : va_K D cl tys s) (hT : zTy cy tys) (hdg : decode cc pc = .ok (.aaload, 1)) (h : zo_ald kds as 2 [3, 4, 5, 6] = some as')
    (k : zGo η kds D cl cy L Θ h0 eff A H0 nL p l e R s m args below meth c Q σA (pc + 1) as') : zGo η kds D cl cy L Θ h0 eff A H0 nL p l e R s m args below meth c Q σA pc as := by
  unfold zo_ald at h
  split at h
  · rename_i b a st hs
    split at h
    · rename_i K q hKd hq
      split at h
      · rename_i hc
        simp only [Bool.and_eq_true, decide_eq_true_eq] at hc
        obtain ⟨⟨⟨⟨⟨⟨c1, c2⟩, c3⟩, c4⟩, c5⟩, c6⟩, c7⟩ := hc
        split at h
        · rename_i x hx
          split at h
          · rename_i hx0
            cases h
            refine zgo_ald hs (z_sub2 c1) c3 c2 hKd (by omega) hq c6 c7 hx (fun i ad g H locs ls rest ws q0 hP hw0 hin hcl htt w => ?_) k
            rw [zE_q c4] at hw0
            have hmem := z_con c5
            have e0 : K.2.1 = 3 ∨ K.2.1 = 4 ∨ K.2.1 = 5 ∨ K.2.1 = 6 := by simpa using hmem
            obtain ⟨C, hC⟩ := hT.2.2.2 K.2.1 (by omega) (by omega)
            refine va_aldq hexec hb hK hP q0 K.2.1 hw0 hC hin hdg ?_
            rw [hcl]
            have hx2 : 2 ≤ x.2.2.1 := by simpa using hx0
            rw [z_dq hx2] at w
            exact w
          · cases h
        · cases h
      · cases h
    · cases h
  · cases h
theorem z_nb8 : ∀ k : Fin 256, vp_nar .byte (Int32.ofInt ((k.val : Int) - 128)) = Int32.ofInt ((k.val : Int) - 128) := by decide +kernel
theorem z_narb {x : Int32} (h1 : -128 ≤ x.toInt) (h2 : x.toInt ≤ 127) : vp_nar .byte x = x := by
  have := z_nb8 ⟨(x.toInt + 128).toNat, by omega⟩
  simp only at this
  rw [show ((x.toInt + 128).toNat : Int) - 128 = x.toInt by omega, z_ofi] at this
  exact this
theorem z_nz1 : ∀ k : Fin 2, vp_nar .boolean (Int32.ofInt (k.val : Int)) = Int32.ofInt (k.val : Int) := by decide +kernel
theorem z_narz {x : Int32} (h1 : 0 ≤ x.toInt) (h2 : x.toInt ≤ 1) : vp_nar .boolean x = x := by
  have := z_nz1 ⟨x.toInt.toNat, by omega⟩
  simp only at this
  rw [show ((x.toInt.toNat : Nat) : Int) = x.toInt by omega, z_ofi] at this
  exact this
theorem zs_ast (hexec : p.tables.exec = Jvm.exec) (hb : c.code = cc) (hK : va_K D cl tys s) (hT : zTy cy tys) (hnd : L.Nodup) (hLA : ∀ a ∈ L, A a) {ts : List Nat} {ins : Jvm.ClassFile.Instr} (hi : (ins = .iastore ∧ ts = [0]) ∨ (ins = .bastore ∧ ts = [1, 2])) (hdg : decode cc pc = .ok (ins, 1)) (h : zo_ast kds eff as ts = some as')
    (k : zGo η kds D cl cy L Θ h0 eff A H0 nL p l e R s m args below meth c Q σA (pc + 1) as') : zGo η kds D cl cy L Θ h0 eff A H0 nL p l e R s m args below meth c Q σA pc as := by
  unfold zo_ast at h
  split at h
  · rename_i v b a st hs
    split at h
    · rename_i K q hKd hq
      split at h
      · rename_i hc
        simp only [Bool.and_eq_true, decide_eq_true_eq, Bool.or_eq_true] at hc
        obtain ⟨⟨⟨⟨⟨⟨⟨⟨⟨⟨c1, c2⟩, c3⟩, c4⟩, c5⟩, c6⟩, c7⟩, c8⟩, c9⟩, c10⟩, c11⟩ := hc
        cases h
        have hmem := z_con c6
        refine zgo_ast hnd hLA hs (z_sub2 c1) c3 c4 c2 hKd c5 hq c7 c8 c9 c10 (fun i x ad f H locs ls rest ws q0 hP hD hS hw0 hin hcl b1 b2 w => ?_) k
        rcases hi with ⟨rfl, rfl⟩ | ⟨rfl, rfl⟩
        · have e0 : K.2.1 = 0 := by simpa using hmem
          rw [e0] at hw0 w
          refine va_iast hexec hb hK hP hD hS q0 0 hw0 hT.1 hin hdg (fun H1 locs1 hP1 _ hS1 => ?_)
          rw [hcl] at hP1
          exact w H1 locs1 hP1 hS1
        · have e0 : K.2.1 = 1 ∨ K.2.1 = 2 := by simpa using hmem
          rcases c11 with (c11 | c11) | c11
          · omega
          · have bb := z_ba c11.2 (by omega) (by omega) i.toInt.toNat
            rw [c11.1] at hw0 w
            refine va_bast hexec hb hK hP hD hS q0 1 hw0 hT.2.1 hin hdg (fun H1 locs1 hP1 _ hS1 => ?_)
            rw [hcl, z_narb (by omega) (by omega)] at hP1
            exact w H1 locs1 hP1 hS1
          · have bb := z_ba c11.2 (by omega) (by omega) i.toInt.toNat
            rw [c11.1] at hw0 w
            refine va_zast hexec hb hK hP hD hS q0 2 hw0 hT.2.2.1 hin hdg (fun H1 locs1 hP1 _ hS1 => ?_)
            rw [hcl, z_narz (by omega) (by omega)] at hP1
            exact w H1 locs1 hP1 hS1
      · cases h
    · cases h
  · cases h
theorem zs_len (hexec : p.tables.exec = Jvm.exec) (hb : c.code = cc) (hK : va_K D cl tys s) (hT : zTy cy tys) (hdg : decode cc pc = .ok (.arraylength, 1)) (h : zo_len kds as = some as')
    (k : zGo η kds D cl cy L Θ h0 eff A H0 nL p l e R s m args below meth c Q σA (pc + 1) as') : zGo η kds D cl cy L Θ h0 eff A H0 nL p l e R s m args below meth c Q σA pc as := by
  unfold zo_len at h
  split at h
  · rename_i a st hs
    split at h
    · rename_i K hKd
      split at h
      · rename_i hc
        simp only [Bool.and_eq_true, decide_eq_true_eq, Bool.or_eq_true] at hc
        obtain ⟨⟨⟨⟨c1, c2⟩, c3⟩, c4⟩, c5⟩ := hc
        cases h
        refine zgo_stk k (fun σ h H locs ls g => ?_)
        obtain ⟨gE, gL, hl, gS, gV, gR, gH, gF, gX⟩ := g
        rw [hs] at gS ⊢
        have ga := gS a List.mem_cons_self
        obtain ⟨ea, na, Θa⟩ := z_nnr c2 gE ga (z_sub2 c1)
        refine ⟨fun b hb => ?_, fun w => ?_⟩
        · rcases List.mem_cons.mp hb with rfl | hb
          · exact z_cg gE c5 (show _ ∧ _ by omega)
          · exact gS b (List.mem_cons_of_mem _ hb)
        · rw [List.map_cons, z_cv gE c5] at w
          rw [List.map_cons, ea]
          obtain ⟨q0, hq⟩ := zH_get gH Θa hKd (by omega)
          rw [zE_i c3.1] at hq
          have ht : ∃ ty, tys[K.2.1]? = some (cy K.2.1, ty) := by
            have : K.2.1 = 0 ∨ K.2.1 = 1 ∨ K.2.1 = 2 := by omega
            rcases this with e0 | e0 | e0 <;> rw [e0]
            · exact ⟨_, hT.1⟩
            · exact ⟨_, hT.2.1⟩
            · exact ⟨_, hT.2.2.1⟩
          obtain ⟨ty, ht⟩ := ht
          exact va_alen (v := Int32.ofInt (K.2.2.1 : Int)) hexec hb hK gH.1 q0 K.2.1 hq ht Int32.ofInt_eq_ofNat.symm hdg w
      · cases h
    · cases h
  · cases h
theorem z_stp (hexec : p.tables.exec = Jvm.exec) (hb : c.code = cc) (hts : ∀ w ∈ Ts, w.before args s = true) (hown : s.vm.findClass own = some m.cls) (hK : va_K D cl tys s) (hT : zTy cy tys) (hnd : L.Nodup) (hLA : ∀ a ∈ L, A a) (hfl : ∀ q ∈ fl, zFok own Ts cl q)
    (hcs : (∀ q ∈ cs.1, Cond.constant own q.1 (Int32.ofInt q.2) ∈ Ts) ∧ ∀ q ∈ cs.2, Cond.constantLong own q.1 (Int64.ofInt q.2) ∈ Ts) {ins : Jvm.ClassFile.Instr} (hdg : decode cc pc = .ok (ins, zlen ins)) (h : zstp kds fl cs eff nL ins as = some as')
    (k : zGo η kds D cl cy L Θ h0 eff A H0 nL p l e R s m args below meth c Q σA (pc + zlen ins) as') : zGo η kds D cl cy L Θ h0 eff A H0 nL p l e R s m args below meth c Q σA pc as := by
  unfold zstp at h
  split at h
  · exact zs_cst h (fun _ _ => show _ ∧ _ by omega) (fun _ _ H locs ls rest w => lv_iconst hexec hb hdg rfl w) k
  · exact zs_cst h (fun _ _ => show _ ∧ _ by omega) (fun a b H locs ls rest w => lv_bipush hexec hb hdg (z_b8 a b) w) k
  · exact zs_cst h (fun _ _ => show _ ∧ _ by omega) (fun a b H locs ls rest w => lv_sipush hexec hb hdg (z_b16 a b) w) k
  · split at h
    · rename_i n hn
      exact zs_cst h (fun a b => ⟨a, b⟩) (fun _ _ H locs ls rest w => lv_ldc hexec hb hown (hts _ (hcs.1 _ (z_lk hn))) hdg w) k
    · cases h
  · split at h
    · rename_i n hn
      exact zs_cst h (fun a b => ⟨a, b⟩) (fun _ _ H locs ls rest w => lv_ldcw hexec hb hown (hts _ (hcs.1 _ (z_lk hn))) hdg w) k
    · cases h
  · split at h
    · rename_i n hn
      exact zs_cst h (fun a b => ⟨a, b⟩) (fun _ _ H locs ls rest w => lv_ldc2 hexec hb hown (hts _ (hcs.2 _ (z_lk hn))) hdg w) k
    · cases h
  · rename_i n
    exact zs_cst h (fun _ _ => show _ ∧ _ by omega) (fun _ _ H locs ls rest w => lv_lconst hexec hb hdg Int64.ofInt_eq_ofNat.symm w) k
  · exact zs_cst h (fun _ _ => Or.inl rfl) (fun _ _ H locs ls rest w => lv_null hexec hb hdg w) k
  · refine zs_ld h (fun a ht v H locs ls rest hv hl w => ?_) k
    obtain ⟨σ, ga, rfl⟩ := hv
    obtain ⟨x, hx⟩ := z_vI ga ht
    rw [hx] at hl w
    exact lv_iload hexec hb hdg hl w
  · refine zs_ld h (fun a ht v H locs ls rest hv hl w => ?_) k
    obtain ⟨σ, ga, rfl⟩ := hv
    obtain ⟨x, hx⟩ := z_vI ga ht
    rw [hx] at hl w
    exact lv_iload_n hexec hb hdg rfl hl w
  · refine zs_ld h (fun a ht v H locs ls rest hv hl w => ?_) k
    obtain ⟨σ, ga, rfl⟩ := hv
    rcases z_vA (σ := σ) ht with hx | ⟨x, hx⟩
    · rw [hx] at hl w
      exact lv_aloadN hexec hb hdg hl w
    · rw [hx] at hl w
      exact lv_aload hexec hb hdg hl w
  · refine zs_ld h (fun a ht v H locs ls rest hv hl w => ?_) k
    obtain ⟨σ, ga, rfl⟩ := hv
    rcases z_vA (σ := σ) ht with hx | ⟨x, hx⟩
    · rw [hx] at hl w
      exact lv_aload_nN hexec hb hdg rfl hl w
    · rw [hx] at hl w
      exact lv_aload_n hexec hb hdg rfl hl w
  · refine zs_ld h (fun a ht v H locs ls rest hv hl w => ?_) k
    obtain ⟨σ, ga, rfl⟩ := hv
    obtain ⟨x, hx⟩ := z_vL (σ := σ) ht
    rw [hx] at hl w
    exact lv_lload hexec hb hdg hl w
  · refine zs_ld h (fun a ht v H locs ls rest hv hl w => ?_) k
    obtain ⟨σ, ga, rfl⟩ := hv
    obtain ⟨x, hx⟩ := z_vL (σ := σ) ht
    rw [hx] at hl w
    exact lv_lload_n hexec hb hdg rfl hl w
  · refine zs_st h (fun a ht hi v H locs ls rest lv hv hl w => ?_) k
    obtain ⟨σ, ga, rfl⟩ := hv
    obtain ⟨x, hx⟩ := z_vI ga ht
    rw [hx] at w ⊢
    exact lv_istore hexec hb hdg hl hi rfl w
  · refine zs_st h (fun a ht hi v H locs ls rest lv hv hl w => ?_) k
    obtain ⟨σ, ga, rfl⟩ := hv
    obtain ⟨x, hx⟩ := z_vI ga ht
    rw [hx] at w ⊢
    exact lv_istore_n hexec hb hdg rfl hl hi rfl w
  · refine zs_st h (fun a ht hi v H locs ls rest lv hv hl w => ?_) k
    obtain ⟨σ, ga, rfl⟩ := hv
    rcases z_vA (σ := σ) ht with hx | ⟨x, hx⟩
    · rw [hx] at w ⊢
      exact lv_astoreN hexec hb hdg hl hi rfl w
    · rw [hx] at w ⊢
      exact lv_astore hexec hb hdg hl hi rfl w
  · refine zs_st h (fun a ht hi v H locs ls rest lv hv hl w => ?_) k
    obtain ⟨σ, ga, rfl⟩ := hv
    rcases z_vA (σ := σ) ht with hx | ⟨x, hx⟩
    · rw [hx] at w ⊢
      exact lv_astore_nN hexec hb hdg rfl hl hi rfl w
    · rw [hx] at w ⊢
      exact lv_astore_n hexec hb hdg rfl hl hi rfl w
  · exact zs_st2 h (fun hi x H locs ls rest lv hl w => lv_lstore hexec hb hdg hl hi rfl w) k
  · exact zs_st2 h (fun hi x H locs ls rest lv hl w => lv_lstore_n hexec hb hdg rfl hl hi rfl w) k
  · exact zs_ari h (fun x y H locs ls rest _ w => lv_iadd hexec hb hdg w) k
  · exact zs_ari h (fun x y H locs ls rest _ w => lv_isub hexec hb hdg w) k
  · exact zs_ari h (fun x y H locs ls rest _ w => lv_imul hexec hb hdg w) k
  · exact zs_ari h (fun x y H locs ls rest hz w => lv_idiv hexec hb hdg (z_nz (hz (Or.inl rfl))) w) k
  · exact zs_ari h (fun x y H locs ls rest hz w => lv_irem hexec hb hdg (z_nz (hz (Or.inr rfl))) (by rw [z_rem (hz (Or.inr rfl))]; exact w)) k
  · exact zs_ari h (fun x y H locs ls rest _ w => lv_ishl hexec hb hdg w) k
  · exact zs_ari h (fun x y H locs ls rest _ w => lv_ishr hexec hb hdg w) k
  · exact zs_ari h (fun x y H locs ls rest _ w => lv_iand hexec hb hdg w) k
  · exact zs_ari h (fun x y H locs ls rest _ w => lv_ior hexec hb hdg w) k
  · exact zs_ari h (fun x y H locs ls rest _ w => lv_ixor hexec hb hdg w) k
  · refine zs_f2 h (fun a b σ ha hb2 ga gb => ?_) k
    obtain ⟨x, ex, -⟩ := z_ci ga ha
    obtain ⟨y, ey, -⟩ := z_ci gb hb2
    refine ⟨((x.toUInt32 >>> (y.toUInt32 &&& Int32.toUInt32 31)).toInt32).toInt, z_lo _, z_hi _, ⟨z_lo _, z_hi _⟩, fun H locs ls rest w => ?_⟩
    rw [z_d32] at w
    rw [ex, ey]
    exact lv_iushr hexec hb hdg rfl w
  · refine zs_f1 h (fun a σ q ha ga b1 b2 => ?_) k
    obtain ⟨x, ex, hx⟩ := z_ci ga ha
    have f := z_fit (q := (-q.2, -q.1)) (v := -x.toInt) (r := -x) (by simp only; omega) (by simp only; omega) (fun a b => z_neg a b)
    refine ⟨(-x).toInt, f.1, f.2, ⟨z_lo _, z_hi _⟩, fun H locs ls rest w => ?_⟩
    rw [z_d32] at w
    rw [ex]
    exact lv_ineg hexec hb hdg w
  · refine zs_f1 h (fun a σ q ha ga b1 b2 => ?_) k
    obtain ⟨x, ex, hx⟩ := z_ci ga ha
    have e1 : (x.toInt8.toInt32).toInt = x.toInt8.toInt := Int8.toInt_toInt32 _
    have e2 := Int8.le_toInt x.toInt8
    have e3 := Int8.toInt_lt x.toInt8
    refine ⟨(x.toInt8.toInt32).toInt, by simp only; omega, by simp only; omega, ⟨z_lo _, z_hi _⟩, fun H locs ls rest w => ?_⟩
    rw [z_d32] at w
    rw [ex]
    exact lv_i2b hexec hb hdg rfl w
  · unfold zo_i2l at h
    split at h
    · rename_i a st hs
      split at h
      · rename_i ht
        cases h
        refine zgo_stk k (fun σ h H locs ls g => ?_)
        have gS := g.2.2.2.1
        rw [hs] at gS ⊢
        have ga := gS a List.mem_cons_self
        obtain ⟨x, ex, hx⟩ := z_ci ga ht
        have b1 := z_lo x
        have b2 := z_hi x
        have ev : zev σ (1, a.2.1, a.2.2) = zev σ a := rfl
        refine ⟨fun b hb => ?_, fun w => ?_⟩
        · rcases List.mem_cons.mp hb with rfl | hb
          · exact ⟨ga.1, by rw [ev, ← hx]; show _ ∧ _; omega⟩
          · exact gS b (List.mem_cons_of_mem _ hb)
        · rw [List.map_cons, ex]
          rw [List.map_cons] at w
          have evv : zvo η σ (1, a.2.1, a.2.2) = .long x.toInt64 := by
            unfold zvo
            rw [ev, ← hx]
            show Value.long (Int64.ofInt x.toInt) = _
            congr 1
          rw [evv] at w
          exact lv_i2l hexec hb hdg rfl w
      · cases h
    · cases h
  · refine zs_f2 h (fun a b σ ha hb2 ga gb => ?_) k
    obtain ⟨x, ex⟩ := z_vL2 (σ := σ) ha
    obtain ⟨y, ey⟩ := z_vL2 (σ := σ) hb2
    refine ⟨(x &&& y).toInt, z_lo64 _, z_hi64 _, ⟨z_lo64 _, z_hi64 _⟩, fun H locs ls rest w => ?_⟩
    rw [z_d64] at w
    rw [ex, ey]
    exact lv_land hexec hb hdg w
  · refine zs_f2 h (fun a b σ ha hb2 ga gb => ?_) k
    obtain ⟨x, ex⟩ := z_vL2 (σ := σ) ha
    obtain ⟨y, ey⟩ := z_vL2 (σ := σ) hb2
    refine ⟨(x ||| y).toInt, z_lo64 _, z_hi64 _, ⟨z_lo64 _, z_hi64 _⟩, fun H locs ls rest w => ?_⟩
    rw [z_d64] at w
    rw [ex, ey]
    exact lv_lor hexec hb hdg w
  · refine zs_f2 h (fun a b σ ha hb2 ga gb => ?_) k
    obtain ⟨x, ex⟩ := z_vL2 (σ := σ) ha
    obtain ⟨y, ey, -⟩ := z_ci gb hb2
    refine ⟨(x <<< (y.toInt64 &&& 63)).toInt, z_lo64 _, z_hi64 _, ⟨z_lo64 _, z_hi64 _⟩, fun H locs ls rest w => ?_⟩
    rw [z_d64] at w
    rw [ex, ey]
    exact lv_lshl hexec hb hdg rfl w
  · refine zs_f2 h (fun a b σ ha hb2 ga gb => ?_) k
    obtain ⟨x, ex⟩ := z_vL2 (σ := σ) ha
    obtain ⟨y, ey, -⟩ := z_ci gb hb2
    refine ⟨(x >>> (y.toInt64 &&& 63)).toInt, z_lo64 _, z_hi64 _, ⟨z_lo64 _, z_hi64 _⟩, fun H locs ls rest w => ?_⟩
    rw [z_d64] at w
    rw [ex, ey]
    exact lv_lshr hexec hb hdg rfl w
  · exact zs_iinc hexec hb hdg h k
  · unfold zo_pop at h
    split at h
    · rename_i a st hs
      split at h
      · cases h
      · rename_i ht
        cases h
        exact zs_stk (len := 1) hs (fun b hb => List.mem_cons_of_mem _ hb) (fun σ H locs ls w => lv_pop hexec hb hdg (z_cat1 _ ht) w) k
    · cases h
  · unfold zo_dup at h
    split at h
    · rename_i a st hs
      split at h
      · cases h
      · rename_i ht
        cases h
        refine zs_stk (st := a :: a :: st) (len := 1) hs (fun b hb => ?_) (fun σ H locs ls w => lv_dup hexec hb hdg (z_cat1 _ ht) w) k
        rcases List.mem_cons.mp hb with rfl | hb
        · exact List.mem_cons_self
        · exact hb
    · cases h
  · unfold zo_dup2 at h
    split at h
    · rename_i a b st hs
      split at h
      · cases h
      · rename_i ht
        cases h
        simp only [Bool.or_eq_true, decide_eq_true_eq, not_or] at ht
        refine zs_stk (st := a :: b :: a :: b :: st) (len := 1) hs (fun x hx => ?_) (fun σ H locs ls w => lv_dup2_11 hexec hb hdg (z_cat1 _ ht.1) (z_cat1 _ ht.2) w) k
        rcases List.mem_cons.mp hx with rfl | hx
        · exact List.mem_cons_self
        · rcases List.mem_cons.mp hx with rfl | hx
          · exact List.mem_cons_of_mem _ List.mem_cons_self
          · exact hx
    · cases h
  · exact zs_get hexec hb hts hown hK hfl hdg h k
  · exact zs_put hexec hb hts hown hK hnd hLA hfl hdg h k
  · exact zs_aldi hexec hb hK hT (Or.inl ⟨rfl, rfl⟩) hdg h k
  · exact zs_aldi hexec hb hK hT (Or.inr ⟨rfl, rfl⟩) hdg h k
  · exact zs_alda hexec hb hK hT hdg h k
  · exact zs_ast hexec hb hK hT hnd hLA (Or.inl ⟨rfl, rfl⟩) hdg h k
  · exact zs_ast hexec hb hK hT hnd hLA (Or.inr ⟨rfl, rfl⟩) hdg h k
  · exact zs_len hexec hb hK hT hdg h k
  · cases h
end ZSP
