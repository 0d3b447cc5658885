variable {η : zRn}
/-! arraycopy -/
def zrow (h : Nat → Nat → Int) (a : Nat) (r : Nat → Int) : Nat → Nat → Int := fun b => if b = a then r else h b
theorem zrow_at (h : Nat → Nat → Int) (a : Nat) (r : Nat → Int) : zrow h a r a = r := by unfold zrow; rw [if_pos rfl]
theorem zrow_ne {h : Nat → Nat → Int} {a b : Nat} {r : Nat → Int} (e : ¬ b = a) : zrow h a r b = h b := by unfold zrow; rw [if_neg e]
theorem zH_row {kds : List zKD} {D : va_G} {cl : List vw_C} {cy : Nat → ClassId} {L : List Nat} {Θ : Nat → Option Nat} {A : Nat → Prop} {h : Nat → Nat → Int} {H H1 : Heap} {a k q0 : Nat} {K : zKD} {r : Nat → Int} (g : zH η kds D cl cy L Θ h H) (hD : va_D A ([] ++ va_pl L (zF η kds cy Θ h))) (h1 : Θ a = some k) (h2 : kds[k]? = some K) (h3 : K.1 ≤ 2)
    (hx : ∀ j, j < K.2.2.1 → zok Θ (zty K j).1 (r j) ∧ (zty K j).2.1 ≤ r j ∧ r j ≤ (zty K j).2.2) (hq : ([] ++ va_pl L (zF η kds cy Θ h))[q0]? = some (η.1 a, zE η cy K (h a)))
    (hP : va_P D cl (([] ++ va_pl L (zF η kds cy Θ h)).set q0 (η.1 a, zE η cy K r)) H1) : zH η kds D cl cy L Θ (zrow h a r) H1 := by
  obtain ⟨K', e1, e2, -⟩ := g.2.2 a k h1
  cases h2.symm.trans e1
  obtain ⟨e3, e4⟩ := e2 h3
  refine ⟨?_, g.2.1, fun b kb hb => ?_⟩
  · rw [va_pl_set hD e3 (by rw [hq, zF_at e4 h1 h2])] at hP
    rw [zpl_congr (g := va_up (zF η kds cy Θ h) (η.1 a) (zE η cy K r))]
    · exact hP
    · intro b hbL
      by_cases hb : b = η.1 a
      · subst hb
        rw [va_up_self, zF_at e4 h1 h2, zrow_at]
      · rw [va_up_ne _ _ hb]
        unfold zF zf
        rw [zrow_ne (fun e => hb (by rw [← e]; exact (g.2.1 b hbL).symm))]
  · obtain ⟨Kb, f1, f2, f3⟩ := g.2.2 b kb hb
    refine ⟨Kb, f1, f2, fun i hi => ?_⟩
    by_cases e : b = a
    · subst e
      cases h1.symm.trans hb
      cases h2.symm.trans f1
      rw [zrow_at]
      exact hx i hi
    · rw [zrow_ne e]
      exact f3 i hi
/-- one type each, and the one within the other -/
def zone (K0 K1 : zKD) : Bool := match K0.2.2.2, K1.2.2.2 with
  | [t0], [t1] => decide (t0.1 = 0) && decide (t1.1 = 0) && decide (t1.2.1 ≤ t0.2.1) && decide (t0.2.2 ≤ t1.2.2)
  | _, _ => false
theorem z_one {K0 K1 : zKD} (h : zone K0 K1 = true) (i j : Nat) : (zty K0 i).1 = 0 ∧ (zty K1 j).1 = 0 ∧ (zty K1 j).2.1 ≤ (zty K0 i).2.1 ∧ (zty K0 i).2.2 ≤ (zty K1 j).2.2 := by
  unfold zone at h
  split at h
  · rename_i t0 t1 h0 h1
    simp only [Bool.and_eq_true, decide_eq_true_eq] at h
    unfold zty
    rw [h0, h1]
    simp only [List.length_cons, List.length_nil, Nat.zero_add, Nat.mod_one, List.getD_cons_zero]
    exact ⟨h.1.1.1, h.1.1.2, h.1.2, h.2⟩
  · cases h
def zo_cpy (kds : List zKD) (eff : List (Nat × Nat × Nat)) (as : zAS) : Option zAS := match as.2.2.1 with
  | n :: dp :: ds :: sp :: sr :: st => (match kds[ds.1 - 2]?, kds[sr.1 - 2]?, ziv as.1 n, ziv as.1 dp, ziv as.1 sp with
    | some K1, some K0, some qn, some qd, some qs => if (decide (2 ≤ ds.1) && decide (2 ≤ sr.1) && znn as.1 ds && znn as.1 sr && (decide (n.1 = 0) && decide (dp.1 = 0) && decide (sp.1 = 0)) && (decide (K0.1 = 1) && decide (K1.1 = 1) && decide (K0.2.1 = K1.2.1) && decide (K1.2.1 ≤ 1)) && (decide (0 ≤ qn.1) && decide (0 ≤ qd.1) && decide (0 ≤ qs.1)) && (decide (qs.2 + qn.2 ≤ (K0.2.2.1 : Int)) && decide (qd.2 + qn.2 ≤ (K1.2.2.1 : Int))) && zone K0 K1 && zinE eff (ds.1 - 2) qd.1.toNat (max qd.1 (qd.2 + qn.2 - 1)).toNat && (decide (K1.2.1 = 0) || zba K1 (-128) 127) && decide ((st.map (fun a => if a.1 = 1 then 2 else 1)).sum ≤ 8)) = true then
        some (as.1, as.2.1, st, as.2.2.2.1.filter (fun o => !(decide (o.1.1 = ds.1 - 2) && decide (qd.1.toNat ≤ o.2.1) && decide (o.2.1 ≤ (max qd.1 (qd.2 + qn.2 - 1)).toNat))), as.2.2.2.2) else none
    | _, _, _, _, _ => none)
  | _ => none
theorem z_fb8 : ∀ k : Fin 256, fits .byte (.int (Int32.ofInt ((k.val : Int) - 128))) = true := by decide +kernel
theorem z_fitb {x : Int} (h1 : -128 ≤ x) (h2 : x ≤ 127) : fits .byte (.int (Int32.ofInt x)) = true := by
  have := z_fb8 ⟨(x + 128).toNat, by omega⟩
  simp only at this
  rw [show ((x + 128).toNat : Int) - 128 = x by omega] at this
  exact this
section ZCP
variable {kds : List zKD} {cl : List vw_C} {tyf : (Nat → ClassId) → List (ClassId × FieldType)} {l : Launch} {cc : ByteArray} {nL fr lo : Nat} {eff : List (Nat × Nat × Nat)} {own : String} {KP : zKPt} {TW : List Cond}
theorem z_spcpy {pc idx : Nat} (hd : decode cc pc = .ok (.invokestatic idx, 3)) (h1 : Cond.methodLink own idx arraycopyName ∈ TW) (h2 : Cond.native arraycopyName ∈ TW) (h3 : Cond.static arraycopyName ∈ TW) (h4 : Cond.initialized "java/lang/System" ∈ TW) (h5 : 1 ≤ fr) (h6 : 26 ≤ lo) : zSpok kds cl TW KP tyf l own cc nL fr lo eff (pc, 3, zo_cpy kds eff) := by
  intro η D cy L Θ h0 p e R s m args below meth c Q σA as as' hexec hb hml hown hts hK hKa hT hnd hfr hlo hf k
  simp only at hf k
  unfold zo_cpy at hf
  split at hf
  · rename_i n dp ds sp sr st hs
    split at hf
    · rename_i K1 K0 qn qd qs hK1 hK0 hqn hqd hqs
      split at hf
      · rename_i hc
        simp only [Bool.and_eq_true, decide_eq_true_eq, Bool.or_eq_true] at hc
        obtain ⟨⟨⟨⟨⟨⟨⟨⟨⟨⟨⟨c1, c2⟩, c3⟩, c4⟩, ⟨⟨c5, c6⟩, c7⟩⟩, ⟨⟨⟨c8, c9⟩, c10⟩, c11⟩⟩, ⟨⟨c12, c13⟩, c14⟩⟩, ⟨c15, c16⟩⟩, c17⟩, c18⟩, c19⟩, c20⟩ := hc
        cases hf
        intro τ h H locs ls g
        obtain ⟨gE, gL, hl, gS, gV, gR, gH, gF, gX⟩ := g
        rw [hs] at gS ⊢
        have m1 : n ∈ n :: dp :: ds :: sp :: sr :: st := List.mem_cons_self
        obtain ⟨xn, en, hn⟩ := z_ci (gS n (by simp)) c5
        obtain ⟨xd, ed, hd'⟩ := z_ci (gS dp (by simp)) c6
        obtain ⟨xs, es, hs'⟩ := z_ci (gS sp (by simp)) c7
        obtain ⟨e1, na1, Θ1⟩ := z_nnr c3 gE (gS ds (by simp)) (z_sub2 c1)
        obtain ⟨e0, na0, Θ0⟩ := z_nnr c4 gE (gS sr (by simp)) (z_sub2 c2)
        have bn := z_iv gE hqn
        have bd := z_iv gE hqd
        have bs := z_iv gE hqs
        rw [← hn] at bn
        rw [← hd'] at bd
        rw [← hs'] at bs
        obtain ⟨q1, hq1⟩ := zH_get gH Θ1 hK1 (by omega)
        obtain ⟨q0, hq0⟩ := zH_get gH Θ0 hK0 (by omega)
        have hD : va_D (fun x => x ∈ L) ([] ++ va_pl L (zF η kds cy Θ h)) := z_D hnd (fun a ha => ha)
        have hw1 := hq1
        have hw0 := hq0
        rw [zE_i c9] at hw1
        rw [zE_i c8, c10] at hw0
        have nn : ∀ z : Int32, 0 ≤ z.toInt → ¬ z < 0 ∧ z.toNatClampNeg = z.toInt.toNat := fun z hz => ⟨fun q => by
          have := Int32.lt_iff_toInt_lt.mp q
          have e0 : (0 : Int32).toInt = 0 := rfl
          omega, rfl⟩
        obtain ⟨n1, n2⟩ := nn xn (by omega)
        obtain ⟨d1, d2⟩ := nn xd (by omega)
        obtain ⟨s1, s2⟩ := nn xs (by omega)
        have gst : ∀ q ∈ st, zga Θ (σA ++ τ) q := fun q hq => gS q (by simp [hq])
        have inb : ∀ j, j < K0.2.2.1 → (zty K0 0).2.1 ≤ h ((σA ++ τ).getD sr.2.1 0).toNat j ∧ h ((σA ++ τ).getD sr.2.1 0).toNat j ≤ (zty K0 0).2.2 ∧ zok Θ 0 (h ((σA ++ τ).getD sr.2.1 0).toNat j) := by
          intro j hj
          obtain ⟨b1, b2, b3⟩ := zH_in gH Θ0 hK0 hj
          have e1 := z_one c17 j 0
          have e2 := z_one c17 0 0
          have ety : zty K0 j = zty K0 0 := by
            have h9 := c17
            unfold zone at h9
            split at h9
            · rename_i t0 t1 g0 g1
              unfold zty
              rw [g0]
              simp [Nat.mod_one]
            · cases h9
          rw [ety] at b1 b2 b3
          rw [e2.1] at b1
          exact ⟨b2, b3, b1⟩
        have hty : ∃ ty : FieldType, (tyf cy)[K1.2.1]? = some (cy K1.2.1, ty) ∧ refKind ty = false ∧ ∀ i, i < xn.toNatClampNeg → fits ty (.int (Int32.ofInt (h ((σA ++ τ).getD sr.2.1 0).toNat (xs.toNatClampNeg + i)))) = true := by
          rcases (show K1.2.1 = 0 ∨ K1.2.1 = 1 by omega) with e9 | e9
          · rw [e9]
            exact ⟨.int, hT.1, rfl, fun _ _ => rfl⟩
          · rw [e9]
            refine ⟨.byte, hT.2.1, rfl, fun i hi => ?_⟩
            have hb8 := z_ba (c19.resolve_left (by omega)) (by decide) (by decide) 0
            have e2 := z_one c17 0 0
            have := inb (xs.toNatClampNeg + i) (by rw [n2] at hi; rw [s2]; omega)
            exact z_fitb (by omega) (by omega)
        obtain ⟨ty, ht1, ht2, ht3⟩ := hty
        simp only [List.map_cons]
        rw [en, ed, e1, es, e0]
        refine va_copyi hexec hb (hml.trans hl.1.symm) hown (hts _ h1) (hts _ h2) (hts _ h3) (hts _ h4) hKa gH.1 hD gF q0 q1 K1.2.1 K1.2.1 hw0 hw1 ht1 ht1 ht2 s1 d1 n1 (by rw [s2, n2]; omega) (by rw [d2, n2]; omega) ht3 (by rw [hfr]; exact h5) ?_ hd (fun H1 locs1 hP1 _ hS1 => ?_)
        · have ec : ((st.map (zvo η (σA ++ τ))).map (fun v => v.category)).sum ≤ 8 := by rw [z_cats]; exact c20
          have ew : nativeFrameWords "java/lang/System" "arraycopy" 5 = 7 := by decide +kernel
          rw [ew, hlo]
          omega
        · have gH1 : zH η kds D cl cy L Θ (zrow h ((σA ++ τ).getD ds.2.1 0).toNat (va_cpy (h ((σA ++ τ).getD sr.2.1 0).toNat) (h ((σA ++ τ).getD ds.2.1 0).toNat) xs.toNatClampNeg xd.toNatClampNeg xn.toNatClampNeg)) H1 := by
            refine zH_row gH hD Θ1 hK1 (by omega) (fun j hj => ?_) hq1 ?_
            · have e1 := z_one c17 0 j
              unfold va_cpy
              split
              · rename_i hj2
                have := inb (xs.toNatClampNeg + (j - xd.toNatClampNeg)) (by rw [s2]; rw [d2, n2] at hj2; omega)
                rw [e1.2.1]
                exact ⟨this.2.2, by omega, by omega⟩
              · exact zH_in gH Θ1 hK1 hj
            · rw [zE_i c9]
              have ef : (fun j => Int32.ofInt (va_cpy (h ((σA ++ τ).getD sr.2.1 0).toNat) (h ((σA ++ τ).getD ds.2.1 0).toNat) xs.toNatClampNeg xd.toNatClampNeg xn.toNatClampNeg j)) = va_cpy (fun j => Int32.ofInt (h ((σA ++ τ).getD sr.2.1 0).toNat j)) (fun j => Int32.ofInt (h ((σA ++ τ).getD ds.2.1 0).toNat j)) xs.toNatClampNeg xd.toNatClampNeg xn.toNatClampNeg := by
                funext j
                unfold va_cpy
                split <;> rfl
              rw [ef]
              exact hP1
          have hout : ∀ j, ¬ (xd.toNatClampNeg ≤ j ∧ j < xd.toNatClampNeg + xn.toNatClampNeg) → va_cpy (h ((σA ++ τ).getD sr.2.1 0).toNat) (h ((σA ++ τ).getD ds.2.1 0).toNat) xs.toNatClampNeg xd.toNatClampNeg xn.toNatClampNeg j = h ((σA ++ τ).getD ds.2.1 0).toNat j := fun j hj => by unfold va_cpy; rw [if_neg hj]
          refine k τ _ H1 locs1 ls ⟨gE, gL, hl, gst, ?_, gR, gH1, hS1, fun b kb j hb hj => ?_⟩
          · intro o ho
            obtain ⟨ho, hne⟩ := List.mem_filter.mp ho
            obtain ⟨g1, g2, g3, g4, g5⟩ := gV o ho
            refine ⟨g1, g2, g3, g4, ?_⟩
            by_cases eb : ((σA ++ τ).getD o.1.2 0).toNat = ((σA ++ τ).getD ds.2.1 0).toNat
            · rw [eb, zrow_at, hout]
              · rw [← eb]; exact g5
              · intro hj
                rw [eb, Θ1] at g4
                have ek := Option.some.inj g4
                simp only [Bool.not_eq_true', Bool.and_eq_false_iff, decide_eq_false_iff_not] at hne
                rw [d2, n2] at hj
                rcases hne with (hne | hne) | hne
                · exact hne ek.symm
                · omega
                · omega
            · rw [zrow_ne eb]
              exact g5
          · by_cases eb : b = ((σA ++ τ).getD ds.2.1 0).toNat
            · subst eb
              cases Θ1.symm.trans hb
              rw [zrow_at, hout]
              · exact gX _ _ j hb hj
              · intro hj2
                rw [d2, n2] at hj2
                rw [z_iE c18 (by omega) (by omega)] at hj
                cases hj
            · rw [zrow_ne eb]
              exact gX b kb j hb hj
      · cases hf
    · cases hf
  · cases hf
end ZCP
