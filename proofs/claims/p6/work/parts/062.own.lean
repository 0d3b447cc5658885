variable {η : zRn}
/-! steps of their own: a table of the class, a sum that turns round, arraycopy -/
section ZTB
variable {kds : List zKD} {cl : List vw_C} {tyf : (Nat → ClassId) → List (ClassId × FieldType)} {l : Launch} {cc : ByteArray} {nL fr lo : Nat} {eff : List (Nat × Nat × Nat)}
/-- the walk over a table's read: from the local's number to the table's -/
def zTabW (l : Launch) (cc : ByteArray) (pc len ti i : Nat) (d : Int) : Prop :=
  ∀ (p : Program) (e : Env) (R : Room) (s : State) (m : MethodId) (args : Array Value) (below : List Frame) (meth : Method) (c : Code) (Q : State → Prop) (H : Heap) (locs : List Loc) (ls : Array Slot) (rest : List Value) (A : Nat → Prop) (tb : Nat) (x : Int32),
    p.tables.exec = Jvm.exec → c.code = cc → s.vm.findClass RX4 = some m.cls → (∀ w ∈ zTW, w.before args s = true) → va_Z RX4 (zTn ti) "[I" (.ref tb) A s s.heap → va_T .int tb (zTv ti).length (fun j => .int (Int32.ofInt ((zTv ti).getD j 0))) A s s.heap → va_S A s.heap H locs →
    ls[i]? = some (.val (.int x)) → 0 ≤ x.toInt + d → x.toInt + d < ((zTv ti).length : Int) → W p l e R s m args below meth c H locs 0 0 Q (F0 m (pc + len) ls (.int (Int32.ofInt ((zTv ti).getD (x.toInt + d).toNat 0)) :: rest)) → W p l e R s m args below meth c H locs 0 0 Q (F0 m pc ls rest)
theorem z_tab0 {pc ti i idx len ll : Nat} (hlk : Cond.fieldLink RX4 idx RX4 (zTn ti) "[I" ∈ zTW) (hd1 : decode cc pc = .ok (.getstatic idx, 3)) (hld : decode cc (pc + 3) = .ok (.iload i, ll) ∨ ∃ k : Fin 4, decode cc (pc + 3) = .ok (.iload_n k, ll) ∧ k.val = i) (hll : decode cc (pc + 3) = .ok (.iload i, ll) → ll = 2) (hl1 : (∃ k : Fin 4, decode cc (pc + 3) = .ok (.iload_n k, ll)) → ll = 1)
    (hd2 : decode cc (pc + 3 + ll) = .ok (.iaload, 1)) (hn : pc + len = pc + 3 + ll + 1) : zTabW l cc pc len ti i 0 := by
  intro p e R s m args below meth c Q H locs ls rest A tb x hexec hb hown hts hZ hT hS hx h1 h2 k
  rw [hn] at k
  refine va_gets hexec hb hZ hS hown (hts _ hlk) (fun _ h => h) hd1 ?_
  have hv := z_vin (i := x) (n := (zTv ti).length) (by omega) (by omega)
  rw [Int.add_zero] at k
  rcases hld with hld | ⟨kk, hld, rfl⟩
  · have := hll hld
    subst this
    refine lv_iload hexec hb hld hx ?_
    exact va_ti hexec hb hT hS hv.1 (by rw [hv.2]) hd2 k
  · have := hl1 ⟨kk, hld⟩
    subst this
    refine lv_iload_n hexec hb hld rfl hx ?_
    exact va_ti hexec hb hT hS hv.1 (by rw [hv.2]) hd2 k
theorem z_tab1 {pc ti i idx len : Nat} {kk : Fin 4} (hlk : Cond.fieldLink RX4 idx RX4 (zTn ti) "[I" ∈ zTW) (hd1 : decode cc pc = .ok (.getstatic idx, 3)) (hld : decode cc (pc + 3) = .ok (.iload_n kk, 1)) (hk : kk.val = i) (hd3 : decode cc (pc + 3 + 1) = .ok (.iconst 1, 1)) (hd4 : decode cc (pc + 3 + 1 + 1) = .ok (.iadd, 1)) (hd2 : decode cc (pc + 3 + 1 + 1 + 1) = .ok (.iaload, 1))
    (hT5 : ((zTv ti).length : Int) ≤ 1000) (hn : pc + len = pc + 3 + 1 + 1 + 1 + 1) : zTabW l cc pc len ti i 1 := by
  intro p e R s m args below meth c Q H locs ls rest A tb x hexec hb hown hts hZ hT hS hx h1 h2 k
  rw [hn] at k
  subst hk
  refine va_gets hexec hb hZ hS hown (hts _ hlk) (fun _ h => h) hd1 ?_
  have e1 : (1 : Int32).toInt = 1 := rfl
  have hs : (x + 1).toInt = x.toInt + 1 := by
    have := z_lo x
    rw [z_add (by rw [e1]; omega) (by rw [e1]; omega), e1]
  have hv := z_vin (i := x + 1) (n := (zTv ti).length) (by omega) (by omega)
  refine lv_iload_n hexec hb hld rfl hx ?_
  refine lv_iconst (v := 1) hexec hb hd3 (by decide +kernel) ?_
  refine lv_iadd hexec hb hd4 ?_
  rw [← hs] at k
  exact va_ti hexec hb hT hS hv.1 (by rw [hv.2]) hd2 k
/-- a sum with 1 that turns round -/
def zo_inc (as : zAS) : Option zAS := match as.2.2.1 with
  | b :: a :: st => if (decide (a.1 = 0) && decide (b.1 = 0) && decide (ziv as.1 a = some (2147483647, 2147483647)) && decide (ziv as.1 b = some (1, 1)) && decide (as.1[0]? = some (0, 0))) = true then some (as.1, as.2.1, (0, 0, -2147483648) :: st, as.2.2.2) else zo_ari as 0
  | _ => none
theorem z_spinc {own : String} {KP : zKPt} {TW : List Cond} {pc : Nat} (hd : decode cc pc = .ok (.iadd, 1)) : zSpok kds cl TW KP tyf l own cc nL fr lo eff (pc, 1, zo_inc) := by
  intro η D cy L Θ h0 p e R s m args below meth c Q σA as as' hexec hb hml hown hts hK hKa hT hnd hfr hlo hf k
  simp only at hf k
  unfold zo_inc at hf
  split at hf
  · rename_i b a st hs
    split at hf
    · rename_i hc
      simp only [Bool.and_eq_true, decide_eq_true_eq] at hc
      obtain ⟨⟨⟨⟨c1, c2⟩, c3⟩, c4⟩, c5⟩ := hc
      cases hf
      refine zgo_stk k (fun σ h H locs ls g => ?_)
      have gS := g.2.2.2.1
      rw [hs] at gS ⊢
      obtain ⟨x, ex, hx⟩ := z_ci (gS a (List.mem_cons_of_mem _ List.mem_cons_self)) c1
      obtain ⟨y, ey, hy⟩ := z_ci (gS b List.mem_cons_self) c2
      have b1 := z_iv g.1 c3
      have b2 := z_iv g.1 c4
      refine ⟨fun q hq => ?_, fun w => ?_⟩
      · rcases List.mem_cons.mp hq with rfl | hq
        · exact z_cg g.1 c5 ⟨by decide, by decide⟩
        · exact gS q (List.mem_cons_of_mem _ (List.mem_cons_of_mem _ hq))
      · rw [List.map_cons, z_cv g.1 c5] at w
        rw [List.map_cons, List.map_cons, ex, ey]
        refine lv_iadd hexec hb hd ?_
        have e1 : x = 2147483647 := Int32.toInt_inj.mp (by rw [hx]; simp only at b1; exact Int.le_antisymm b1.2 b1.1)
        have e2 : y = 1 := Int32.toInt_inj.mp (by rw [hy]; simp only at b2; exact Int.le_antisymm b2.2 b2.1)
        rw [e1, e2]
        exact w
    · exact zs_ari hf (fun x y H locs ls rest _ w => lv_iadd hexec hb hd w) k
  · cases hf
end ZTB
