variable {η : zRn}
/-! a contract's call, where cells have been made -/
section LWC
variable {kds : List zKD} {D : va_G} {cl : List vw_C} {cy : Nat → ClassId} {L : List Nat} {Θ : Nat → Option Nat} {nL : Nat}
variable {p : Program} {l : Launch} {e : Env} {R : Room} {s : State} {m : MethodId} {args : Array Value} {below : List Frame} {meth : Method} {c : Code} {Q : State → Prop}
variable {cc : ByteArray} {pc : Nat} {TW Ts : List Cond} {own : String} {KP : zKPt} {tyf : (Nat → ClassId) → List (ClassId × FieldType)} {cells slots : Nat}
theorem z_runV2 (hKP : zKPok cl tyf KP) (hg : zgoodW TW) {w0 : Cond} (hTs : Ts = w0 :: TW) {C : zCT} (hM : zMet kds cl TW KP l C) (hnd : L.Nodup) (S : CallFix p m c cc nL s args Ts own) (hK : KP η D cy L Θ s) (hC : zCV kds cl TW own cc R.frames R.locals pc C) (hcs : cells ≤ R.cells ∧ slots ≤ R.slots)
    {σc : List Int} {h : Nat → Nat → Int} {H : Heap} {locs : List Loc} {ls : Array Slot} {rest : List Value} (hE : zge σc C.2.2.1.2.1) (hA : ∀ a ∈ C.2.2.1.1, zga Θ σc a) (hV : zgv Θ h σc C.2.2.1.2.2.2.2.1) (hR : zgr σc C.2.2.1.2.2.2.2.2) (hH : zH η kds D cl cy L Θ h H) (hsz0 : s.heap.size ≤ H.size) (hq : ∀ q : Nat, q < s.heap.size → q ∉ L → H[q]? = s.heap[q]?) (hsz : ls.size = nL) (hcat : (rest.map (fun v => v.category)).sum ≤ 8) :
    va_Run p l e R s m args below meth c H locs cells slots 0 0 (F0 m pc ls ((C.2.2.1.1.map (zvo η σc)).reverse ++ rest)) rest (zQ η kds D cl cy L Θ h σc C.2.2.2.1 C.2.2.2.2 (C.2.2.1.1.map (zvo η σc)).toArray) (fun q => q ∈ L) := by
  obtain ⟨idx, hd, m1, m2, m3, m4, m5, m6, m7, m8, m9, r, ea, K, T, N, ee, er, en, eK, eK0, eC⟩ := hC
  have hts : ∀ w ∈ TW, w.before args s = true := fun w hw => S.2.2.2.2 w (by rw [hTs]; exact List.mem_cons_of_mem _ hw)
  have hr : zga Θ σc r := hA r (by rw [ee]; exact List.mem_cons_self)
  obtain ⟨ea1, na, Θa⟩ := z_nnr (η := η) en hE hr (z_sub2 er)
  obtain ⟨q0, hq0⟩ := zH_get hH Θa eK (by omega)
  rw [zE_o eK0] at hq0
  have hKa := (hKP.1 _ _ _ _ _ _ hK).1
  have hrec := va_recv hKa hH.1 eC hq0
  have hMM := hM η D cy L Θ h σc hnd hE hA hV hR
  have hmap : C.2.2.1.1.map (zvo η σc) = .ref (η.1 (σc.getD r.2.1 0).toNat) :: ea.map (zvo η σc) := by rw [ee, List.map_cons, ea1]
  rw [hmap] at hMM ⊢
  refine va_runV (C := C.1.1.cls) (n := C.2.2.1.1.length - 1) (As := ea.map (zvo η σc)) (bytes := C.1.2.1) (maxL := C.1.2.2.1) (ret := C.1.2.2.2) S hMM ⟨callB_of _ S.2.2.2.2 (by rw [hTs]; exact z_good hg m5) rfl rfl rfl (hts _ m4) (hts _ m1) ⟨m6.1, m6.2, m7⟩ ⟨m8, m9⟩, hts _ m2, hts _ m3⟩ ⟨z_blind hKP, hrec, fun U hU hW => ⟨rfl, by rw [hU]; exact hH, ?_⟩⟩ rfl (by rw [ee]; simp) hsz (by simp) (by simpa using hcat) hd hcs
  exact hKP.2.1 _ _ _ _ _ s U hK hW (by rw [hU]; exact hsz0) (fun q h1 h2 => by rw [hU]; exact hq q h1 h2)
/-- the walk goes on behind it -/
theorem lw_call (hKP : zKPok cl tyf KP) (hg : zgoodW TW) {w0 : Cond} (hTs : Ts = w0 :: TW) {C : zCT} (hM : zMet kds cl TW KP l C) (hnd : L.Nodup) (S : CallFix p m c cc nL s args Ts own) (hK : KP η D cy L Θ s) (hC : zCV kds cl TW own cc R.frames R.locals pc C) (hcs : cells ≤ R.cells ∧ slots ≤ R.slots)
    {σ : List Int} {h : Nat → Nat → Int} {H : Heap} {locs : List Loc} {ls : Array Slot} {rest st0 : List Value} {A : Nat → Prop} (hE : zge σ C.2.2.1.2.1) (hA : ∀ a ∈ C.2.2.1.1, zga Θ σ a) (hV : zgv Θ h σ C.2.2.1.2.2.2.2.1) (hR : zgr σ C.2.2.1.2.2.2.2.2) (hH : zH η kds D cl cy L Θ h H) (hLA : ∀ q ∈ L, A q) (hS : va_S A s.heap H locs) (hq : ∀ q : Nat, q < s.heap.size → q ∉ L → H[q]? = s.heap[q]?) (hsz : ls.size = nL) (hcat : (rest.map (fun v => v.category)).sum ≤ 8)
    (hst : st0 = (C.2.2.1.1.map (zvo η σ)).reverse ++ rest)
    (k : ∀ (v : Option Value) (out : zAS) (ρ : List Int) (h' : Nat → Nat → Int) (H1 : Heap) (locs1 : List Loc), out ∈ C.2.2.2.1 → zge (σ ++ ρ) out.1 → (∀ a ∈ out.2.2.1, zga Θ (σ ++ ρ) a) → v.toList = out.2.2.1.map (zvo η (σ ++ ρ)) → zgv Θ h' (σ ++ ρ) out.2.2.2.1 →
      zH η kds D cl cy L Θ h' H1 → (∀ a k j, Θ a = some k → zinE C.2.2.2.2 k j j = false → h' a j = h a j) → H.size ≤ H1.size → (∀ q : Nat, q < H.size → q ∉ L → H1[q]? = H[q]?) → va_S A s.heap H1 locs1 → W p l e R s m args below meth c H1 locs1 cells slots Q (F0 m (pc + 3) ls (v.toList ++ rest))) :
    W p l e R s m args below meth c H locs cells slots Q (F0 m pc ls st0) := by
  subst hst
  have hr := z_runV2 (e := e) (below := below) (meth := meth) (locs := locs) (cells := cells) (slots := slots) (rest := rest) hKP hg hTs hM hnd S hK hC hcs hE hA hV hR hH hS.1 hq hsz hcat
  intro T hT X
  obtain ⟨v, st₀, t, T', L', hh0, X', hL', e1, e2, ⟨v', out, ρ, h', hv, ho, oE, oS, ov, oV, oR, oH, oX, oF⟩, stp⟩ := hr T hT X
  cases hv
  obtain ⟨f1, f2⟩ := oF
  rw [hh0] at f1 f2
  have hS1 : va_S A s.heap t.heap (locs ++ L') := by
    refine ⟨Nat.le_trans hS.1 f1, fun q hq1 hq2 => ?_, fun q hq1 => ?_⟩
    · rw [f2 q (Nat.lt_of_lt_of_le hq1 hS.1) (fun z => hq2 (hLA q z))]
      exact hS.2.1 q hq1 hq2
    · rcases List.mem_append.mp hq1 with h1 | h1
      · exact hS.2.2 q h1
      · exact hLA _ (hL' q h1)
  obtain ⟨t2, q1, q2⟩ := k v out ρ h' t.heap (locs ++ L') ho oE oS ov oV oH oX f1 f2 hS1 T' e1 X'
  exact ⟨t2, stp t2 q1, q2⟩
end LWC
/-! statics: what holds of them, whatever cells are made -/
def zS0 (base : Nat) (tb adK adV : Nat → Nat) (fv : Option Nat) (U : State) : Prop :=
  (∀ i, i < 4 → va_Z RX4 (zTn i) "[I" (.ref (tb i)) (fun q => base ≤ q) U U.heap ∧ va_T .int (tb i) (zTv i).length (fun j => .int (Int32.ofInt ((zTv i).getD j 0))) (fun q => base ≤ q) U U.heap) ∧
  vk_S 15 zSl zSb adK adV (fun q => base ≤ q) U U.heap ∧ (∀ i, i < 15 → vk_R RX4 (zSi.getD i 0) (zSt.getD i "") (adK i) U) ∧
  va_Z RJ0 "COMPACT_STRINGS" "Z" (.int 1) (fun q => base ≤ q) U U.heap ∧ va_Z RJ3 "SIOOBE_FORMATTER" "Ljava/util/function/BiFunction;" (va_rf fv) (fun q => base ≤ q) U U.heap
theorem zS0.go {base : Nat} {tb adK adV : Nat → Nat} {fv : Option Nat} {s U : State} (h : zS0 base tb adK adV fv s) (hW : s.WarmedH U.vm) (hq : ∀ q : Nat, q < s.heap.size → ¬ (base ≤ q) → U.heap[q]? = s.heap[q]?) : zS0 base tb adK adV fv U := by
  obtain ⟨h1, h2, h3, h4, h5⟩ := h
  exact ⟨fun i hi => ⟨((h1 i hi).1.moved hW.alike).kept hq, ((h1 i hi).2.moved hW.alike).kept hq⟩, (h2.moved hW.alike).kept hq, fun i hi => (h3 i hi).warm hW, (h4.moved hW.alike).kept hq, (h5.moved hW.alike).kept hq⟩
theorem zS0.same {base : Nat} {tb adK adV : Nat → Nat} {fv : Option Nat} {s U : State} (h : zS0 base tb adK adV fv s) (hv : U.vm = s.vm) (hh : U.heap = s.heap) : zS0 base tb adK adV fv U := by
  obtain ⟨h1, h2, h3, h4, h5⟩ := h
  have ha : s.vm.Alike U.vm := by rw [hv]; exact Vm.Alike.refl s.vm
  have hq : ∀ q : Nat, q < s.heap.size → ¬ (fun q => base ≤ q) q → U.heap[q]? = s.heap[q]? := fun q _ _ => by rw [hh]
  exact ⟨fun i hi => ⟨((h1 i hi).1.moved ha).kept hq, ((h1 i hi).2.moved ha).kept hq⟩, (h2.moved ha).kept hq, fun i hi => (h3 i hi).same hv, (h4.moved ha).kept hq, (h5.moved ha).kept hq⟩
/-- the Strings' names -/
def zNm (Θ : Nat → Option Nat) : Prop := (∀ i, i < 15 → Θ (1000000 + i) = some (zKs (zSl.getD i 0))) ∧ ∀ a n, 3 ≤ n → n ≤ 5 → Θ a = some (zKs n) → ∃ i, i < 15 ∧ 1000000 + i = a ∧ zSl.getD i 0 = n
theorem zST_of {base : Nat} {tb adK adV : Nat → Nat} {fv : Option Nat} {U : State} {L : List Nat} {Θ : Nat → Option Nat} (hη : ∀ i, i < 15 → η.1 (1000000 + i) = adK i) (h : zS0 base tb adK adV fv U) (hL : ∀ q ∈ L, base ≤ q) (hN : zNm Θ) : zST η L Θ U := by
  obtain ⟨h1, h2, h3, h4, h5⟩ := h
  exact ⟨tb, adK, adV, fun i => 1000000 + i, fv, fun i hi => ⟨(h1 i hi).1.narrow hL, (h1 i hi).2.narrow hL⟩, h2.narrow hL, h3, h4.narrow hL, h5.narrow hL, fun i hi => ⟨hN.1 i hi, rfl, hη i hi⟩, hN.2⟩
def zNm0 (a : Nat) : Option Nat := if 1000000 ≤ a ∧ a < 1000015 then some (zKs (zSl.getD (a - 1000000) 0)) else none
theorem zNm0_ok : zNm zNm0 := by
  refine ⟨fun i hi => ?_, fun a n h1 h2 ha => ?_⟩
  · unfold zNm0
    rw [if_pos (by omega), show 1000000 + i - 1000000 = i by omega]
  · unfold zNm0 at ha
    split at ha
    · rename_i hc
      refine ⟨a - 1000000, by omega, by omega, ?_⟩
      have e := Option.some.inj ha
      unfold zKs at e
      omega
    · cases ha
/-! from the start no cell but the Strings has a name -/
theorem zH_nil {kds : List zKD} {D : va_G} {cl : List vw_C} {cy : Nat → ClassId} {h : Nat → Nat → Int} {H : Heap} : zH η kds D cl cy [] (fun _ => none) h H := ⟨fun k q hk => (by simp [va_pl] at hk), fun q hq => (by cases hq), fun a k ha => (by cases ha)⟩
theorem zS_k3 : ∀ i : Fin 15, ∃ K : zKD, zkds[zKs (zSl.getD i.1 0)]? = some K ∧ ¬ K.1 ≤ 2 ∧ K.2.2.1 = 0 := by
  decide +kernel
theorem zH_nil0 {D : va_G} {cl : List vw_C} {cy : Nat → ClassId} {h : Nat → Nat → Int} {H : Heap} : zH η zkds D cl cy [] zNm0 h H := by
  refine ⟨fun k q hk => (by simp [va_pl] at hk), fun q hq => (by cases hq), fun a k ha => ?_⟩
  unfold zNm0 at ha
  split at ha
  · rename_i hc
    have e := Option.some.inj ha
    subst e
    clear ha
    obtain ⟨K, h1, h2, h3⟩ := zS_k3 ⟨a - 1000000, by omega⟩
    exact ⟨K, h1, fun z => absurd z h2, fun j hj => by rw [h3] at hj; omega⟩
  · cases ha
