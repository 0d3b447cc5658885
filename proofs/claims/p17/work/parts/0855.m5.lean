section
variable {η : zRn}
theorem zTpl2 (ws : List Cond) (ps qs : List Nat) (hp : ws.filter (fun w => !k2_isCode w) = ps.filterMap (fun i => lw_tbl[i]?)) (hg : (ws.filter (fun w => !k2_isCode w)).all goodWord = true) (hq : ws.filter k2_isCode = qs.filterMap (fun i => lw_tbl[i]?)) : ∀ w ∈ ws, w ∈ zTW := by
  intro w hw
  by_cases hc : k2_isCode w = true
  · have h1 : w ∈ ws.filter k2_isCode := List.mem_filter.mpr ⟨hw, hc⟩
    rw [hq] at h1
    obtain ⟨i, -, hi⟩ := List.mem_filterMap.mp h1
    refine List.mem_filter.mpr ⟨List.mem_of_getElem? hi, ?_⟩
    cases w <;> first | (simp [k2_isCode] at hc; done) | rfl
  · have h1 : w ∈ ws.filter (fun w => !k2_isCode w) := List.mem_filter.mpr ⟨hw, by simpa using hc⟩
    have h2 := List.all_eq_true.mp hg w h1
    rw [hp] at h1
    obtain ⟨i, -, hi⟩ := List.mem_filterMap.mp h1
    exact List.mem_filter.mpr ⟨List.mem_of_getElem? hi, h2⟩
theorem zTpm2 (ws : List Cond) (ps qs : List (Nat × Nat)) (hp : ws.filter (fun w => !k2_isCode w) = ps.filterMap (fun q => (tbC q.1)[q.2]?)) (hg : (ws.filter (fun w => !k2_isCode w)).all goodWord = true) (hq : ws.filter k2_isCode = qs.filterMap (fun q => (tbC q.1)[q.2]?)) : ∀ w ∈ ws, w ∈ zTW := by
  intro w hw
  by_cases hc : k2_isCode w = true
  · have h1 : w ∈ ws.filter k2_isCode := List.mem_filter.mpr ⟨hw, hc⟩
    rw [hq] at h1
    obtain ⟨i, -, hi⟩ := List.mem_filterMap.mp h1
    refine List.mem_filter.mpr ⟨tbC_in hi, ?_⟩
    cases w <;> first | (simp [k2_isCode] at hc; done) | rfl
  · have h1 : w ∈ ws.filter (fun w => !k2_isCode w) := List.mem_filter.mpr ⟨hw, by simpa using hc⟩
    have h2 := List.all_eq_true.mp hg w h1
    rw [hp] at h1
    obtain ⟨i, -, hi⟩ := List.mem_filterMap.mp h1
    exact List.mem_filter.mpr ⟨tbC_in hi, h2⟩
theorem z_gdin {ws : List Cond} {w0 : Cond} (h : ∀ w ∈ ws, w ∈ zTW) : GoodIn (w0 :: zTW) ws := fun w hw => ⟨List.mem_cons_of_mem _ (h w hw), zTW_good w (h w hw)⟩
theorem W_sz {p : Program} {l : Launch} {e : Env} {R : Room} {s : State} {m : MethodId} {args : Array Value} {below : List Frame} {meth : Method} {c : Code} {H : Heap} {locs : List Loc} {cells slots : Nat} {Q : State → Prop} {g : JFrame} (k : H.size ≤ s.heap.size + cells → W p l e R s m args below meth c H locs cells slots Q g) : W p l e R s m args below meth c H locs cells slots Q g := fun T hT X => k (by rw [← hT]; exact X.heapSize) T hT X
/-! addresses of a list of new cells -/
theorem zAD_inj {A : Nat → Prop} {ws : va_W} (hD : va_D A ws) : zinj ws.length (fun i => (ws.map (·.1)).getD i 0) := by
  intro i j hi hj e
  have gi : ∀ i (hi : i < ws.length), (ws.map (·.1)).getD i 0 = ws[i].1 := fun i hi => by
    rw [List.getD_eq_getElem?_getD, List.getElem?_map, List.getElem?_eq_getElem hi]
    rfl
  simp only [gi i hi, gi j hj] at e
  exact hD.1 i j ws[i] ws[j] (List.getElem?_eq_getElem hi) (List.getElem?_eq_getElem hj) e
theorem zAD_A {A : Nat → Prop} {ws : va_W} (hD : va_D A ws) {i : Nat} (hi : i < ws.length) : A ((ws.map (·.1)).getD i 0) := by
  rw [List.getD_eq_getElem?_getD, List.getElem?_map, List.getElem?_eq_getElem hi]
  exact hD.2 i ws[i] (List.getElem?_eq_getElem hi)
theorem zAD_lt {D : va_G} {cl : List vw_C} {H : Heap} {ws : va_W} (hP : va_P D cl ws H) {i : Nat} (hi : i < ws.length) : (ws.map (·.1)).getD i 0 < H.size := by
  rw [List.getD_eq_getElem?_getD, List.getElem?_map, List.getElem?_eq_getElem hi]
  exact (hP i ws[i] (List.getElem?_eq_getElem hi)).lt
theorem z_vaA1 {q : Nat} {e : va_E} {sz r : Nat} (h : va_A [(q, e)] sz r) : r = q ∨ sz ≤ r := by
  rcases h with ⟨k, e2, h⟩ | h
  · cases k with
    | zero =>
      simp at h
      exact Or.inl h.1.symm
    | succ k => simp at h
  · exact Or.inr h
/-! which cells have no name yet -/
/-- the names of Strings stay -/
def zTns (T : zTm) : Bool := T.all (fun q => decide (q.1 < 59) || decide (61 < q.1))
theorem zNm_app {T : zTm} {cd : Nat → Nat} {Θ : Nat → Option Nat} (hN : zNm Θ) (hT : zTns T = true) (hj : zinj T.length cd) (hlt : ∀ i, i < T.length → cd i < 1000000) : zNm (zTh T cd Θ) := by
  refine ⟨fun i hi => ?_, fun a n h1 h2 ha => ?_⟩
  · rw [zTh_ne (fun k hk e => by have := hlt k hk; omega)]
    exact hN.1 i hi
  · by_cases hex : ∃ i, i < T.length ∧ cd i = a
    · obtain ⟨i, hi, rfl⟩ := hex
      rw [zTh_at hj hi] at ha
      have e := Option.some.inj ha
      have := List.all_eq_true.mp hT _ (List.mem_of_getElem? (z_gdT2 hi))
      simp only [Bool.or_eq_true, decide_eq_true_eq] at this
      unfold zKs at e
      omega
    · rw [zTh_ne (fun i hi e => hex ⟨i, hi, e⟩)] at ha
      exact hN.2 a n h1 h2 ha
/-! images one by one -/
section LRI
variable {D : va_G} {cy : Nat → ClassId} {L : List Nat} {Θ : Nat → Option Nat} {h h' : Nat → Nat → Int} {H : Heap} {a : Nat}
end LRI
theorem zTi_ns : zTns zTi0 = true ∧ zTns zTi1 = true ∧ zTns zTi2 = true ∧ zTns zTc = true := by decide +kernel
set_option maxRecDepth 100000 in
theorem zin_X9_init : ∀ w ∈ wsX9_init, w ∈ zTW := zTpm2 _ [(1, 35), (1, 28), (1, 36), (1, 37), (1, 3), (1, 209), (1, 150), (1, 211), (1, 53), (1, 55), (1, 4), (1, 213), (1, 151), (1, 153), (1, 5), (1, 214), (1, 173), (1, 175), (1, 6), (1, 215), (1, 218), (1, 39), (1, 41), (1, 52), (1, 42), (1, 57), (1, 59), (1, 78), (1, 86), (1, 90), (1, 94), (1, 103), (1, 108), (1, 112), (1, 155), (1, 157), (1, 162), (1, 165), (1, 177), (1, 179), (1, 184), (1, 186), (1, 192), (1, 194), (1, 47), (1, 49), (1, 220), (1, 222), (1, 224), (1, 226), (1, 228), (1, 230), (1, 232), (1, 119), (1, 121), (1, 123), (1, 125), (1, 127), (1, 129), (1, 131), (1, 133), (1, 135), (1, 137), (1, 139), (1, 141), (1, 143), (1, 145), (1, 147), (1, 166), (1, 168), (1, 170), (1, 196), (1, 198), (1, 200), (1, 202), (1, 204), (1, 206)] [(1, 34), (1, 29), (1, 40), (1, 58), (1, 156), (1, 178)] (by decide +kernel) (by decide +kernel) rfl
set_option maxRecDepth 100000 in
theorem zin_X11_init : ∀ w ∈ wsX11_init, w ∈ zTW := zTpm2 _ [(1, 27), (1, 28), (1, 30), (1, 31), (1, 2), (2, 234), (2, 235), (1, 236), (1, 237), (1, 7), (2, 236), (2, 44), (2, 45), (1, 8), (2, 237), (2, 152), (2, 153), (1, 10), (2, 238), (2, 176), (2, 177), (1, 11), (2, 239), (2, 207), (2, 208), (1, 12), (3, 0), (1, 33), (1, 35), (1, 36), (1, 37), (1, 3), (1, 209), (1, 150), (1, 211), (1, 53), (1, 55), (1, 4), (1, 213), (1, 151), (1, 153), (1, 5), (1, 214), (1, 173), (1, 175), (1, 6), (1, 215), (1, 218), (1, 39), (1, 41), (1, 52), (1, 42), (1, 57), (1, 59), (1, 78), (1, 86), (1, 90), (1, 94), (1, 103), (1, 108), (1, 112), (1, 155), (1, 157), (1, 162), (1, 165), (1, 177), (1, 179), (1, 184), (1, 186), (1, 192), (1, 194), (1, 239), (2, 1), (2, 2), (2, 8), (2, 4), (2, 10), (2, 6), (2, 12), (2, 18), (2, 19), (2, 47), (2, 49), (2, 50), (2, 51), (1, 9), (2, 94), (2, 96), (2, 98), (2, 100), (2, 118), (2, 53), (2, 55), (2, 56), (2, 59), (2, 62), (2, 64), (2, 67), (2, 69), (2, 155), (2, 157), (2, 158), (2, 166), (2, 179), (2, 181), (2, 188), (2, 189), (2, 190), (2, 210), (2, 212), (2, 213), (2, 215), (2, 217), (2, 218), (2, 219), (2, 220), (1, 220), (1, 222), (1, 224), (1, 226), (1, 228), (1, 230), (1, 232), (3, 1), (3, 3), (3, 5), (3, 7), (3, 9), (3, 11), (3, 13), (2, 23), (2, 25), (2, 27), (2, 29), (2, 31), (2, 33), (2, 35), (2, 37), (2, 39), (2, 41), (2, 119), (2, 121), (2, 123), (2, 125), (2, 127), (2, 129), (2, 131), (2, 133), (2, 135), (2, 137), (2, 139), (2, 141), (2, 143), (2, 145), (2, 147), (2, 149), (2, 167), (2, 169), (2, 171), (2, 173), (2, 192), (2, 194), (2, 196), (2, 198), (2, 200), (2, 202), (2, 204), (2, 221), (2, 223), (2, 225), (2, 227), (2, 229), (2, 231), (1, 47), (1, 49), (1, 119), (1, 121), (1, 123), (1, 125), (1, 127), (1, 129), (1, 131), (1, 133), (1, 135), (1, 137), (1, 139), (1, 141), (1, 143), (1, 145), (1, 147), (1, 166), (1, 168), (1, 170), (1, 196), (1, 198), (1, 200), (1, 202), (1, 204), (1, 206), (2, 73), (2, 75), (2, 77), (2, 79), (2, 81), (2, 83), (2, 85), (2, 87)] [(1, 26), (1, 29), (1, 34), (1, 40), (1, 58), (1, 156), (1, 178), (2, 0), (2, 48), (2, 54), (2, 156), (2, 180), (2, 211)] (by decide +kernel) (by decide +kernel) rfl
set_option maxRecDepth 100000 in
theorem zin_X12_init : ∀ w ∈ wsX12_init, w ∈ zTW := zTpm2 _ [(5, 238), (1, 28), (1, 52), (6, 0), (1, 150), (6, 1), (6, 2), (6, 3), (6, 4), (6, 5), (6, 6), (6, 7), (6, 17), (6, 18), (6, 29), (6, 30), (6, 31), (6, 35), (6, 36), (6, 37), (6, 38), (6, 39), (6, 40), (6, 41), (6, 42), (6, 43), (6, 44), (6, 45), (6, 46), (6, 47), (6, 192), (6, 51), (6, 52), (6, 53), (6, 57), (6, 58), (6, 59), (6, 60), (6, 61), (6, 62), (6, 63), (6, 65), (6, 67), (6, 69), (6, 71), (6, 73), (6, 75), (6, 77), (6, 79), (6, 81), (6, 83), (6, 85), (6, 87), (6, 89), (6, 91), (6, 93), (6, 95), (6, 97), (6, 99), (6, 101), (6, 103), (6, 105), (6, 107), (6, 109), (6, 111), (6, 113), (6, 115), (6, 117), (6, 119), (6, 121), (6, 123), (6, 125), (6, 127), (6, 129), (6, 131), (6, 133), (6, 135), (6, 137), (6, 139), (6, 141), (6, 143), (6, 145), (6, 147), (6, 149), (6, 151), (6, 153), (6, 155), (6, 157), (6, 159), (6, 161), (6, 163), (6, 165), (6, 167), (6, 169), (6, 171), (6, 173), (6, 175), (6, 177), (6, 179), (6, 181), (6, 183), (6, 185), (6, 187), (6, 189)] [(5, 237), (1, 29)] (by decide +kernel) (by decide +kernel) rfl
end
section
/-! THE CLAIM OUT OF ONE WALK OF THE LAW'S BODY. Your part is whole_start (and what it stands on); all else here is the same for every law, but numbers. -/
def R_law : String := "ShoalClaimsLaw"
def lw_P (b : Addr) (xs : List Int32) (args : Array Value) (s : State) : Prop := args = #[.ref b] ∧ s.IntsAt b xs ∧ xs.length ≤ 3072 ∧ (Jvm.Cond.and given_1 narrow_1).before args s = true
def lw_Q (_ : Array Value) (s : State) (o : Outcome) (t : State) : Prop := o = .returned (some (.int 1)) ∧ Framed s o t [] 600000 7302250
def lw_Z (below : List Frame) (a : Array Value) (s : State) : State → Prop := fun t => ∃ o, t.status = .running ∧ Ended t below o ∧ lw_Q a s o t
/-- the law's own end, with 1 on the stack, nothing written that was there before, its room as the claim has it -/
theorem lw_ret {p : Program} {l : Launch} {e : Env} {s : State} {m : MethodId} {below : List Frame} {meth : Method} {c : Code} {b : Nat} (hx : p.tables.exec = Jvm.exec) (hb : c.code = code) (hr : meth.sig.returnType = ret) (hlocks : meth.locks = false) {pc : Nat} {H : Heap} {ls : Array Slot} (hdg : decode code pc = .ok (.ireturn, 1)) : W p l e room_1 s m #[Value.ref b] below meth c H [] 600000 7302250 (lw_Z below #[Value.ref b] s) (F0 m pc ls [.int 1]) := by
  intro T hT X
  obtain ⟨fs, hret, hrun, hended, hW, hframe⟩ := X.leave (v := some (.int 1)) (hlocks := hlocks) (fun h => by rw [hr] at h; cases h)
  have hmeth' : T.vm.method? m = some meth := X.method'
  refine ⟨T.setFrames fs, ?_, .returned (some (.int 1)), hrun, hended, rfl, ⟨_, rfl⟩, hW, hframe⟩
  jvm_step X.here [X.here.top, hx, hb, hdg, hmeth', hr, ret, narrow_b1]
  (try refine ⟨rfl, ?_⟩); (try refine ⟨rfl, ?_⟩)
  first | (intro acts; rw [hret _ acts rfl rfl rfl]) | rw [hret _ _ rfl rfl rfl]
  exact Steps.refl _
/-- what holds at the law's entry: the machine, the code, the tables' words (any of lw_tbl by 'hts w (by decide +kernel)'), the script of L ints xs at the cell b, what the Statement gives of the start (any of its parts by flat_of_before) -/
def lw_At (p : Program) (s : State) (m : MethodId) (meth : Method) (c : Code) (b L : Nat) (xs : Nat → Int32) : Prop :=
  p.tables.exec = Jvm.exec ∧ c.code = code ∧ meth.sig.returnType = ret ∧ c.maxLocals = 4 ∧ s.vm.findClass R_law = some m.cls ∧ (∀ w ∈ lw_tbl, w.before #[Value.ref b] s = true) ∧ va_X b L xs s s.heap ∧ b < s.heap.size ∧ meth.locks = false ∧ (Jvm.Cond.and given_1 narrow_1).before #[Value.ref b] s = true
theorem zl_i11 : Cond.initialized RX11 ∈ zTW := zTi_1 1 (by decide +kernel) rfl
/-! the law's walk: what is at hand, and what holds between two calls -/
theorem z_lwt {w : Cond} (h : w ∈ zTW) : w ∈ lw_tbl := (List.mem_filter.mp h).1
def lwW0 : Cond := Cond.initialized RX11
theorem lwW0_in : lwW0 ∈ lw_tbl := z_lwt zl_i11
theorem lw_S {p : Program} {s : State} {m : MethodId} {meth : Method} {c : Code} {b L : Nat} {xs : Nat → Int32} (C0 : lw_At p s m meth c b L xs) : CallFix p m c code 4 s #[Value.ref b] (lwW0 :: zTW) RL := by
  obtain ⟨hx, hb, hr, hml, hown, hts0, hX, hbl, hlocks, hgv⟩ := C0
  refine ⟨hx, hb, hml, hown, fun w hw => ?_⟩
  rcases List.mem_cons.mp hw with rfl | hw
  · exact hts0 _ lwW0_in
  · exact hts0 _ (z_lwt hw)
/-- the law's locals -/
def lwL (ls : Array Slot) (qa qr i b : Nat) : Prop := lv_has ls 4 [(3, .int (nI i)), (2, .ref qr), (1, .ref qa), (0, .ref b)]
section LWG
variable {η ζ : zRn} {F : Prop} {p : Program} {l : Launch} {e : Env} {s : State} {m : MethodId} {below : List Frame} {meth : Method} {c : Code} {b N : Nat} {xs : Nat → Int32} {Q : State → Prop} {H : Heap} {locs : List Loc} {cells slots pc : Nat} {ls : Array Slot} {st rest : List Value} {a r i qa qr : Nat} {D : va_G} {cy : Nat → ClassId}
/-- one number of the script -/
theorem lw_arg (C0 : lw_At p s m meth c b N xs) (hN : N ≤ 3072) (hS : va_S (fun q => s.heap.size ≤ q) s.heap H locs) (hl : lwL ls qa qr i b) (k : Nat) (hi : i + 6 ≤ N) (hk : k < 6) {v : Int} (hv : Int32.ofInt v = nI k) (d1 : decode code pc = .ok (.aload_n 0, 1)) (d2 : decode code (pc + 1) = .ok (.iload_n 3, 1)) (d3 : decode code (pc + 1 + 1) = .ok (.iconst v, 1)) (d4 : decode code (pc + 1 + 1 + 1) = .ok (.iadd, 1)) (d5 : decode code (pc + 1 + 1 + 1 + 1) = .ok (.iaload, 1))
    (w : W p l e room_1 s m #[Value.ref b] below meth c H locs cells slots Q (F0 m (pc + 1 + 1 + 1 + 1 + 1) ls (.int (xs (i + k)) :: st))) : W p l e room_1 s m #[Value.ref b] below meth c H locs cells slots Q (F0 m pc ls st) := by
  obtain ⟨hx, hb, hr, hml, hown, hts0, hX, hbl, hlocks, hgv⟩ := C0
  refine lv_aload_n hx hb d1 rfl (lv_at hl 3 rfl) ?_
  refine lv_iload_n hx hb d2 rfl (lv_at hl 0 rfl) ?_
  refine lv_iconst (v := nI k) hx hb d3 hv ?_
  refine lv_iadd hx hb d4 ?_
  rw [nI_add]
  refine va_sld (A := fun q => s.heap.size ≤ q) hx hb hX hbl (Nat.not_le.mpr hbl) hS (vp_in_nI (by omega) (by omega)) d5 ?_
  rw [nI_clamp (by omega)]
  exact w
/-- the class's names: Strings, all cells named, the Claims, no name yet for images that aren't there -/
def nmC (η : zRn) (adK : Nat → Nat) (L : List Nat) (Θ : Nat → Option Nat) (h : yH) : Prop := zNm Θ ∧ (∀ i, i < 15 → η.1 (1000000 + i) = adK i) ∧ (∀ q ∈ L, ∃ k, Θ (η.2 q) = some k) ∧ Θ 1 = some 63 ∧ ∀ k, k < 3 → h 2 k = -1 → ∀ a, 1000 * (k + 1) ≤ a → a < 1000 * (k + 2) → Θ a = none
/-- the cells of both -/
def lwB (s : State) (L M : List Nat) : Prop := L.Nodup ∧ M.Nodup ∧ (∀ q ∈ L, q ∉ M) ∧ (∀ q ∈ L, s.heap.size ≤ q) ∧ ∀ q ∈ M, s.heap.size ≤ q
/-- what holds between two calls -/
def lwI (F : Prop) (s : State) (D : va_G) (cy : Nat → ClassId) (adK : Nat → Nat) (qa qr : Nat) (H : Heap) : Prop := ∃ (η ζ : zRn) (L M : List Nat) (Θ Ξ : Nat → Option Nat) (h g : Nat → Nat → Int), lwB s L M ∧ nmC η adK L Θ h ∧ nmR Ξ ∧ zH η zkds D vwCl cy L Θ h H ∧ zH ζ zkdm D vwCl cy M Ξ g H ∧ (η.1 1 = qa ∧ ζ.1 35 = qr) ∧ RW F h g
/-- the machine's side of the walk: what stays the same -/
def lwX (l : Launch) (p : Program) (s : State) (m : MethodId) (meth : Method) (c : Code) (b N : Nat) (xs : Nat → Int32) (D : va_G) (cy : Nat → ClassId) (tb adK adV : Nat → Nat) (fv : Option Nat) : Prop := lw_At p s m meth c b N xs ∧ N ≤ 3072 ∧ KW D cy s ∧ zS0 s.heap.size tb adK adV fv s
variable {tb adK adV : Nat → Nat} {fv : Option Nat} {L M : List Nat} {Θ Ξ : Nat → Option Nat} {h g : Nat → Nat → Int}
theorem nmC.keep {h' : yH} (hN : nmC η adK L Θ h) (e : ∀ k, h' 2 k = h 2 k) : nmC η adK L Θ h' := ⟨hN.1, hN.2.1, hN.2.2.1, hN.2.2.2.1, fun k hk w => hN.2.2.2.2 k hk (by rw [← e]; exact w)⟩
/-! calls of methods as functions -/
section LWY
variable {kds : List zKD} {cl : List vw_C} {nL : Nat} {R : Room} {args : Array Value} {cc : ByteArray} {TW Ts : List Cond} {own : String} {KP : zKPt} {tyf : (Nat → ClassId) → List (ClassId × FieldType)}
theorem lw_callY (hKP : zKPok cl tyf KP) (hg : zgoodW TW) {w0 : Cond} (hTs : Ts = w0 :: TW) {y : yY} {fr' lo' : Nat} {tags : List Nat} {B : yB} (hM : yMet kds cl TW KP l y fr' lo' tags B) (hnd : L.Nodup) (S : CallFix p m c cc nL s args Ts own) (hK : KP η D cy L Θ s) (hC : yCV kds cl TW own cc R.frames R.locals pc y fr' lo' tags) (hcs : cells ≤ R.cells ∧ slots ≤ R.slots)
    {vs : List yV} {st0 : List Value} {A : Nat → Prop} {Qr : yQt} (ht : vs.map Prod.fst = tags) (hA : ∀ a ∈ vs, yok Θ a) (hB : B Θ (vs.map Prod.snd) h Qr) (hH : zH η kds D cl cy L Θ h H) (hLA : ∀ q ∈ L, A q) (hS : va_S A s.heap H locs) (hq : ∀ q : Nat, q < s.heap.size → q ∉ L → H[q]? = s.heap[q]?) (hsz : ls.size = nL) (hcat : (rest.map (fun v => v.category)).sum ≤ 8) (hst : st0 = (vs.map (yvo η)).reverse ++ rest)
    (k : ∀ (a : yV) (h' : Nat → Nat → Int) (H1 : Heap) (locs1 : List Loc), Qr a h' → yok Θ a → zH η kds D cl cy L Θ h' H1 → H.size ≤ H1.size → (∀ q : Nat, q < H.size → q ∉ L → H1[q]? = H[q]?) → va_S A s.heap H1 locs1 → W p l e R s m args below meth c H1 locs1 cells slots Q (F0 m (pc + 3) ls ((if y.2.2.2.isNone = true then (none : Option Value) else some (yvo η a)).toList ++ rest))) :
    W p l e R s m args below meth c H locs cells slots Q (F0 m pc ls st0) := by
  subst hst
  have hr : va_Run p l e R s m args below meth c H locs cells slots 0 0 (F0 m pc ls ((vs.map (yvo η)).reverse ++ rest)) rest (yQ η kds D cl cy L Θ y.2.2.2.isNone Qr (vs.map (yvo η)).toArray) (fun q => q ∈ L) := by
    obtain ⟨idx, hd, m1, m2, m3, m4, m5, m6, m7, m8, m9, kk, ts, K, T, N', et, eK, eK0, eC⟩ := hC
    have hts : ∀ w ∈ TW, w.before args s = true := fun w hw => S.2.2.2.2 w (by rw [hTs]; exact List.mem_cons_of_mem _ hw)
    have hMM := hM η D cy L Θ h vs Qr hnd ht hA hB
    cases vs with
    | nil => rw [et] at ht; cases ht
    | cons r ea =>
      have hr1 : r.1 = kk + 100002 := by
        rw [et] at ht
        simp only [List.map_cons, List.cons.injEq] at ht
        exact ht.1
      obtain ⟨a1, Θa, ea1⟩ := y_ref (η := η) (hA r List.mem_cons_self) hr1
      obtain ⟨q0, hq0⟩ := zH_get hH Θa eK (by omega)
      rw [zE_o eK0] at hq0
      have hKa := (hKP.1 _ _ _ _ _ _ hK).1
      have hrec := va_recv hKa hH.1 eC hq0
      rw [List.map_cons, ea1] at hMM ⊢
      have hlen : ea.length = tags.length - 1 := by rw [← ht]; simp
      refine va_runV (C := y.1.cls) (n := tags.length - 1) (As := ea.map (yvo η)) (bytes := y.2.1) (maxL := y.2.2.1) (ret := y.2.2.2) S hMM ⟨callB_of _ S.2.2.2.2 (by rw [hTs]; exact z_good hg m5) rfl rfl rfl (hts _ m4) (hts _ m1) ⟨m6.1, m6.2, m7⟩ ⟨m8, m9⟩, hts _ m2, hts _ m3⟩ ⟨z_blind hKP, hrec, fun U hU hW => ⟨rfl, by rw [hU]; exact hH, ?_⟩⟩ rfl (by simpa using hlen) hsz (by simp) (by simpa using hcat) hd hcs
      exact hKP.2.1 _ _ _ _ _ s U hK hW (by rw [hU]; exact hS.1) (fun q h1 h2 => by rw [hU]; exact hq q h1 h2)
  intro T hT X
  obtain ⟨v, st₀, t, T', L', hh0, X', hL', e1, e2, ⟨v', a, h', hv, hv2, oa, oq, oH, oF⟩, stp⟩ := hr T hT X
  cases hv
  obtain ⟨f1, f2⟩ := oF
  rw [hh0] at f1 f2
  have hS1 : va_S A s.heap t.heap (locs ++ L') := by
    refine ⟨Nat.le_trans hS.1 f1, fun q hq1 hq2 => ?_, fun q hq1 => ?_⟩
    · rw [f2 q (Nat.lt_of_lt_of_le hq1 hS.1) (fun z => hq2 (hLA q z))]
      exact hS.2.1 q hq1 hq2
    · rcases List.mem_append.mp hq1 with h1 | h1
      · exact hS.2.2 q h1
      · exact hLA _ (hL' q h1)
  have w := k a h' t.heap (locs ++ L') oq oa oH f1 f2 hS1
  rw [← hv2] at w
  obtain ⟨t2, q1, q2⟩ := w T' e1 X'
  exact ⟨t2, stp t2 q1, q2⟩
end LWY
/-- what a function's contract says of one value -/
theorem yF_at {t n : Nat} {f : yFn} {Θ : Nat → Option Nat} {ys : List Int} {h h2 : yH} {v : Int} (e : f n ys h = some (v, h2)) : yF t f Θ ys h (fun a h' => a = (t, v) ∧ h' = h2) := ⟨n, v, h2, e, rfl, rfl⟩
def yvs1 (a : Nat) (t : Nat) (As : List Int) : List yV := (t, (a : Int)) :: As.map (fun x => (0, x))
theorem yvs1_ok {a kk : Nat} {As : List Int} (ha : Θ a = some kk) (hA : ∀ x ∈ As, -2147483648 ≤ x ∧ x ≤ 2147483647) : ∀ v ∈ yvs1 a (kk + 100002) As, yok Θ v := by
  intro v hv
  rcases List.mem_cons.mp hv with rfl | hv
  · unfold yok
    rw [if_neg (by simp only; omega)]
    refine ⟨by simp only; omega, ?_⟩
    simp only [Int.toNat_natCast]
    rw [ha]
    exact congrArg some (by omega)
  · obtain ⟨x, hx, rfl⟩ := List.mem_map.mp hv
    exact y_i (hA x hx).1 (hA x hx).2
theorem yvs1_vo {a kk : Nat} {As : List Int} : (yvs1 a (kk + 100002) As).map (yvo η) = .ref (η.1 a) :: As.map (fun x => .int (Int32.ofInt x)) := by
  unfold yvs1
  rw [List.map_cons, List.map_map]
  have e1 : yvo η (kk + 100002, (a : Int)) = .ref (η.1 a) := by
    show zdec η ((kk + 100000) + 2) ((a : Int)) = _
    rw [z_dr]
  rw [e1]
  rfl
theorem yvs1_snd {a t : Nat} {As : List Int} : (yvs1 a t As).map Prod.snd = (a : Int) :: As := by
  unfold yvs1
  rw [List.map_cons, List.map_map]
  congr 1
  exact List.map_id' As
theorem yvs1_fst {a t : Nat} {As : List Int} : (yvs1 a t As).map Prod.fst = t :: List.replicate As.length 0 := by
  unfold yvs1
  rw [List.map_cons, List.map_map]
  congr 1
  exact List.map_const'
/-- a call of the class, as a function -/
theorem lwCf {y : yY} {fr' lo' n : Nat} {f : yFn} {As : List Int} {v : Int} {h2 : yH} (X : lwX l p s m meth c b N xs D cy tb adK adV fv) (hM : yMet zkds vwCl zTW zKP l y fr' lo' (100065 :: List.replicate As.length 0) (yF 0 f)) (hC : yCV zkds vwCl zTW RL code room_1.frames room_1.locals pc y fr' lo' (100065 :: List.replicate As.length 0)) (hret : y.2.2.2.isNone = false) (hAs : ∀ x ∈ As, -2147483648 ≤ x ∧ x ≤ 2147483647)
    (hB : lwB s L M) (hN : nmC η adK L Θ h) (hH : zH η zkds D vwCl cy L Θ h H) (hG : zH ζ zkdm D vwCl cy M Ξ g H) (ea : η.1 1 = qa) (hf : f n (1 :: As) h = some (v, h2))
    (hS : va_S (fun q => s.heap.size ≤ q) s.heap H locs) (hcs : cells ≤ 600000 ∧ slots ≤ 7302250) (hl : lwL ls qa qr i b) (hcat : (rest.map (fun v => v.category)).sum ≤ 8) (hst : st = (As.map (fun x => (.int (Int32.ofInt x) : Value))).reverse ++ (.ref qa :: rest))
    (k : ∀ (H1 : Heap) (locs1 : List Loc), zH η zkds D vwCl cy L Θ h2 H1 → zH ζ zkdm D vwCl cy M Ξ g H1 → va_S (fun q => s.heap.size ≤ q) s.heap H1 locs1 → W p l e room_1 s m #[Value.ref b] below meth c H1 locs1 cells slots Q (F0 m (pc + 3) ls (.int (Int32.ofInt v) :: rest))) :
    W p l e room_1 s m #[Value.ref b] below meth c H locs cells slots Q (F0 m pc ls st) := by
  obtain ⟨C0, -, hKW, hZ⟩ := X
  obtain ⟨hLn, hMn, hLM, hLb, hMb⟩ := hB
  have hKP : zKP η D cy L Θ s := ⟨hKW, zST_of hN.2.1 hZ hLb hN.1⟩
  refine lw_callY (vs := yvs1 1 (63 + 100002) As) (Qr := fun a h' => a = (0, v) ∧ h' = h2) zkp_ok zTW_good rfl hM hLn (lw_S C0) hKP hC hcs yvs1_fst (yvs1_ok hN.2.2.2.1 hAs) (by rw [yvs1_snd]; exact yF_at hf) hH hLb hS (fun q h1 _ => hS.2.1 q h1 (Nat.not_le.mpr h1)) hl.1 hcat ?_ (fun a h' H1 locs1 hQ oa oH oz oq oS => ?_)
  · rw [hst, yvs1_vo, ea]
    simp
  · obtain ⟨rfl, rfl⟩ := hQ
    rw [hret]
    exact k H1 locs1 oH (zH_kept hG (fun q hq => oq q (zH_lt hG hq) (fun z => hLM q z hq))) oS
/-- a call of the reference, as a function -/
theorem lwRf {y : yY} {fr' lo' n : Nat} {f : yFn} {As : List Int} {v : Int} {g2 : yH} (X : lwX l p s m meth c b N xs D cy tb adK adV fv) (hM : yMet zkdm vwCl zTW zKPr l y fr' lo' (100037 :: List.replicate As.length 0) (yF 0 f)) (hC : yCV zkdm vwCl zTW RL code room_1.frames room_1.locals pc y fr' lo' (100037 :: List.replicate As.length 0)) (hret : y.2.2.2.isNone = false) (hAs : ∀ x ∈ As, -2147483648 ≤ x ∧ x ≤ 2147483647)
    (hB : lwB s L M) (hNR : nmR Ξ) (hH : zH η zkds D vwCl cy L Θ h H) (hG : zH ζ zkdm D vwCl cy M Ξ g H) (er : ζ.1 35 = qr) (hf : f n (35 :: As) g = some (v, g2))
    (hS : va_S (fun q => s.heap.size ≤ q) s.heap H locs) (hcs : cells ≤ 600000 ∧ slots ≤ 7302250) (hl : lwL ls qa qr i b) (hcat : (rest.map (fun v => v.category)).sum ≤ 8) (hst : st = (As.map (fun x => (.int (Int32.ofInt x) : Value))).reverse ++ (.ref qr :: rest))
    (k : ∀ (H1 : Heap) (locs1 : List Loc), zH η zkds D vwCl cy L Θ h H1 → zH ζ zkdm D vwCl cy M Ξ g2 H1 → va_S (fun q => s.heap.size ≤ q) s.heap H1 locs1 → W p l e room_1 s m #[Value.ref b] below meth c H1 locs1 cells slots Q (F0 m (pc + 3) ls (.int (Int32.ofInt v) :: rest))) :
    W p l e room_1 s m #[Value.ref b] below meth c H locs cells slots Q (F0 m pc ls st) := by
  obtain ⟨C0, -, hKW, hZ⟩ := X
  obtain ⟨hLn, hMn, hLM, hLb, hMb⟩ := hB
  refine lw_callY (vs := yvs1 35 (35 + 100002) As) (Qr := fun a h' => a = (0, v) ∧ h' = g2) zkpr_ok zTW_good rfl hM hMn (lw_S C0) (show zKPr ζ D cy M Ξ s from hKW) hC hcs yvs1_fst (yvs1_ok hNR.1 hAs) (by rw [yvs1_snd]; exact yF_at hf) hG hMb hS (fun q h1 _ => hS.2.1 q h1 (Nat.not_le.mpr h1)) hl.1 hcat ?_ (fun a h' H1 locs1 hQ oa oH oz oq oS => ?_)
  · rw [hst, yvs1_vo, er]
    simp
  · obtain ⟨rfl, rfl⟩ := hQ
    rw [hret]
    exact k H1 locs1 (zH_kept hH (fun q hq => oq q (zH_lt hH hq) (fun z => hLM q hq z))) oH oS
end LWG
end
section
variable {η : zRn}
theorem dX11_image_0 : decode cX11_image 0 = .ok (.iload_n 1, 1) := by decide +kernel
theorem dX11_image_1 : decode cX11_image 1 = .ok (.ifCond .lt 8, 3) := by decide +kernel
theorem dX11_image_4 : decode cX11_image 4 = .ok (.iload_n 1, 1) := by decide +kernel
theorem dX11_image_5 : decode cX11_image 5 = .ok (.iconst 3, 1) := by decide +kernel
theorem dX11_image_6 : decode cX11_image 6 = .ok (.if_icmp .lt 5, 3) := by decide +kernel
theorem dX11_image_9 : decode cX11_image 9 = .ok (.iconst 0, 1) := by decide +kernel
theorem dX11_image_10 : decode cX11_image 10 = .ok (.ireturn, 1) := by decide +kernel
theorem dX11_image_11 : decode cX11_image 11 = .ok (.aload_n 0, 1) := by decide +kernel
theorem dX11_image_12 : decode cX11_image 12 = .ok (.getfield 16, 3) := by decide +kernel
theorem dX11_image_15 : decode cX11_image 15 = .ok (.iload_n 1, 1) := by decide +kernel
theorem dX11_image_16 : decode cX11_image 16 = .ok (.aaload, 1) := by decide +kernel
theorem dX11_image_17 : decode cX11_image 17 = .ok (.ifnonnull 16, 3) := by decide +kernel
theorem dX11_image_20 : decode cX11_image 20 = .ok (.aload_n 0, 1) := by decide +kernel
theorem dX11_image_21 : decode cX11_image 21 = .ok (.getfield 16, 3) := by decide +kernel
theorem dX11_image_24 : decode cX11_image 24 = .ok (.iload_n 1, 1) := by decide +kernel
theorem dX11_image_25 : decode cX11_image 25 = .ok (.new 7, 3) := by decide +kernel
theorem dX11_image_28 : decode cX11_image 28 = .ok (.dup, 1) := by decide +kernel
theorem dX11_image_29 : decode cX11_image 29 = .ok (.invokespecial 9, 3) := by decide +kernel
theorem dX11_image_32 : decode cX11_image 32 = .ok (.aastore, 1) := by decide +kernel
theorem dX11_image_33 : decode cX11_image 33 = .ok (.aload_n 0, 1) := by decide +kernel
theorem dX11_image_34 : decode cX11_image 34 = .ok (.getfield 16, 3) := by decide +kernel
theorem dX11_image_37 : decode cX11_image 37 = .ok (.iload_n 1, 1) := by decide +kernel
theorem dX11_image_38 : decode cX11_image 38 = .ok (.aaload, 1) := by decide +kernel
theorem dX11_image_39 : decode cX11_image 39 = .ok (.aload_n 0, 1) := by decide +kernel
theorem dX11_image_40 : decode cX11_image 40 = .ok (.getfield 10, 3) := by decide +kernel
theorem dX11_image_43 : decode cX11_image 43 = .ok (.invokevirtual 382, 3) := by decide +kernel
theorem dX11_image_46 : decode cX11_image 46 = .ok (.iconst 1, 1) := by decide +kernel
theorem dX11_image_47 : decode cX11_image 47 = .ok (.ireturn, 1) := by decide +kernel
/-! image(): made where there is none, then told over -/
section IMG
variable {D : va_G} {cl : List vw_C} {cy : Nat → ClassId} {L : List Nat} {Θ : Nat → Option Nat} {h : Nat → Nat → Int} {H : Heap} {locs : List Loc} {cells slots : Nat}
variable {p : Program} {l : Launch} {e : Env} {R : Room} {s : State} {m : MethodId} {args : Array Value} {below : List Frame} {meth : Method} {c : Code} {Q : State → Prop}
variable {cc : ByteArray} {pc : Nat} {Ts : List Cond} {own : String} {ls : Array Slot} {rest : List Value}
theorem hg_get {kds : List zKD} {tys : List (ClassId × FieldType)} (hexec : p.tables.exec = Jvm.exec) (hb : c.code = cc) (hts : ∀ w ∈ Ts, w.before args s = true) (hown : s.vm.findClass own = some m.cls) (hKa : va_K D cl tys s) {idx ci k kk : Nat} {o : Option FieldType} {a : Nat} {K : zKD} (hF : zFok own Ts cl (idx, ci, k, o)) (hΘ : Θ a = some kk) (hK : kds[kk]? = some K) (hKf : K.1 = 0 ∧ K.2.1 = ci) (hk : k < K.2.2.1) (hH : zH η kds D cl cy L Θ h H) (hdg : decode cc pc = .ok (.getfield idx, 3))
    (w : W p l e R s m args below meth c H locs cells slots Q (F0 m (pc + 3) ls (zdec η (zty K k).1 (h a k) :: rest))) : W p l e R s m args below meth c H locs cells slots Q (F0 m pc ls (.ref (η.1 a) :: rest)) := by
  obtain ⟨C, T, N, e1, e2, e3, e4, -⟩ := hF
  obtain ⟨q0, hq⟩ := zH_get hH hΘ hK (by omega)
  rw [zE_o hKf.1, hKf.2] at hq
  exact va_get (v := zdec η (zty K k).1 (h a k)) hexec hb hts e2 hown hKa hH.1 q0 hq e1 k e3 (hts _ e4) (fun _ x => x) (z_fs hk) hdg w
/-- the array of images is read -/
theorem hg_img (hexec : p.tables.exec = Jvm.exec) (hb : c.code = cc) (hKa : va_K D cl (tyW cy) s) {im : Nat} (him : Θ im = some 62) (hH : zH η zkds D cl cy L Θ h H) {x : Int32} {k : Nat} (hx : x.toInt = (k : Int)) (hk : k < 3) (hdg : decode cc pc = .ok (.aaload, 1))
    (w : W p l e R s m args below meth c H locs cells slots Q (F0 m (pc + 1) ls (va_rf (zrf η (h im k)) :: rest))) : W p l e R s m args below meth c H locs cells slots Q (F0 m pc ls (.int x :: .ref (η.1 im) :: rest)) := by
  obtain ⟨q0, hq⟩ := zH_get hH him zkd_62 (by decide)
  rw [zE_q rfl] at hq
  obtain ⟨v1, v2⟩ := z_vin (i := x) (n := 3) (by omega) (by omega)
  refine va_aldq hexec hb hKa hH.1 q0 6 hq (by rfl) v1 hdg ?_
  have ek : x.toNatClampNeg = k := by rw [v2]; omega
  show W p l e R s m args below meth c H locs cells slots Q (F0 m (pc + 1) ls (va_rf (zrf η (h im x.toNatClampNeg)) :: rest))
  rw [ek]
  exact w
end IMG

theorem zl_img : Cond.methodLink RX11 382 yX9_copyFrom ∈ zTW := zTi_5 219 (by decide +kernel) rfl
/-- names of an image's cells -/
def cdIo : List Nat := [3, 4, 5, 6, 7, 20, 21, 22, 23, 24, 25, 26, 27, 30, 31, 32, 33, 34, 35, 36, 37, 8, 40, 41, 42, 50, 51, 52, 9, 60, 61, 62, 63, 64, 70, 71, 72, 73, 74]
def cdI (k i : Nat) : Nat := 1000 * (k + 1) + cdIo.getD i 0
theorem cdI_b {k i : Nat} (hi : i < 39) : 1000 * (k + 1) + 3 ≤ cdI k i ∧ cdI k i ≤ 1000 * (k + 1) + 79 := by
  have key : ∀ i : Fin 39, 3 ≤ cdIo.getD i.1 0 ∧ cdIo.getD i.1 0 ≤ 79 := by decide +kernel
  have := key ⟨i, hi⟩
  simp only at this
  unfold cdI
  omega
theorem cdI_j (k : Nat) : zinj 39 (cdI k) := by
  intro i j hi hj e
  have key : ∀ i j : Fin 39, cdIo.getD i.1 0 = cdIo.getD j.1 0 → i = j := by decide +kernel
  unfold cdI at e
  have := key ⟨i, hi⟩ ⟨j, hj⟩ (by simp only; omega)
  exact congrArg Fin.val this
/-- image k is there as a cell -/
def imC (k : Nat) (h h' : yH) : Prop := (∀ a j, ¬ (1000 * (k + 1) ≤ a ∧ a < 1000 * (k + 2)) → ¬ (a = 2 ∧ j = k) → h' a j = h a j) ∧ h' 2 k = ((1000 * (k + 1) + 3 : Nat) : Int) ∧ cPb (1000 * (k + 1)) h' ∧ h' (1000 * (k + 1) + 4) 1 ≤ 600
def imgO (k : Nat) (η : zRn) (adK : Nat → Nat) (D : va_G) (cy : Nat → ClassId) (L : List Nat) (h : yH) (sz : Nat) (H : Heap) : Prop := ∃ (η' : zRn) (L' : List Nat) (Θ' : Nat → Option Nat) (h' h2 : yH), zH η' zkds D vwCl cy L' Θ' h2 H ∧ L'.Nodup ∧ (∀ q ∈ L', q ∈ L ∨ sz ≤ q) ∧ nmC η' adK L' Θ' h2 ∧ η'.1 1 = η.1 1 ∧ imC k h h' ∧ tcR (1000 * (k + 1)) 0 h' h2
theorem zk_ex {kds : List zKD} {cl : List vw_C} {kk : Nat} {ts tags : List Nat} {C : String} (K : zKD) (q : vw_C) (h1 : tags = (kk + 100002) :: ts) (h2 : kds[kk]? = some K) (h3 : K.1 = 0) (h4 : cl[K.2.1]? = some q) (h5 : q.1 = C) : ∃ (kk : Nat) (ts : List Nat) (K : zKD) (T : u_T) (N : Nat), tags = (kk + 100002) :: ts ∧ kds[kk]? = some K ∧ K.1 = 0 ∧ cl[K.2.1]? = some (C, T, N) := ⟨kk, ts, K, q.2.1, q.2.2, h1, h2, h3, by rw [h4, ← h5]⟩
set_option maxHeartbeats 4000000 in
set_option maxRecDepth 10000 in
theorem img_tl0 (l : Launch) {D : va_G} {cy : Nat → ClassId} {L : List Nat} {Θ : Nat → Option Nat} {h : Nat → Nat → Int} {H : Heap} {locs : List Loc} {cells slots : Nat} {p : Program} {e : Env} {R : Room} {s : State} {m : MethodId} {args : Array Value} {below : List Frame} {meth : Method} {c : Code} {Q : State → Prop} {w0 : Cond} {ls : Array Slot} {A : Nat → Prop} {base : Nat} {tb adK adV : Nat → Nat} {fv : Option Nat} {x : Int32} (S : CallFix p m c cX11_image 2 s args (w0 :: zTW) RX11) (hKW : KW D cy s) (hZ : zS0 base tb adK adV fv s)
    (hH : zH η zkds D vwCl cy L Θ h H) (hnd : L.Nodup) (hLb : ∀ q ∈ L, base ≤ q) (hN : nmC η adK L Θ h) (hP : cP h) (him : h 2 0 = ((1000 * (0 + 1) + 3 : Nat) : Int)) (hPk : cPb (1000 * (0 + 1)) h) (hLA : ∀ q ∈ L, A q) (hS : va_S A s.heap H locs) (hq : ∀ q : Nat, q < s.heap.size → q ∉ L → H[q]? = s.heap[q]?) (hcs : cells ≤ R.cells ∧ slots ≤ R.slots) (hfr : 3 ≤ R.frames) (hlo : 69 ≤ R.locals) (hl : lv_has ls 2 [(0, .ref (η.1 1)), (1, .int x)]) (hxk : x.toInt = ((0 : Nat) : Int))
    (K : ∀ (h' : Nat → Nat → Int) (H1 : Heap) (locs1 : List Loc), zH η zkds D vwCl cy L Θ h' H1 → tcR (1000 * (0 + 1)) 0 h h' → va_S A s.heap H1 locs1 → W p l e R s m args below meth c H1 locs1 cells slots Q (F0 m 46 ls [])) : W p l e R s m args below meth c H locs cells slots Q (F0 m 33 ls []) := by
  obtain ⟨hx, hb, hml, hown, hts⟩ := id S
  have hKa : va_K D vwCl (tyW cy) s := hKW.1
  have ha := hN.2.2.2.1
  obtain ⟨k2, k3, -⟩ := cK_0 hH ha hP
  have kI := cK_im (F := False) (g := h) hH ha hP (show 0 < 3 by decide) him
  have e11 : h 1 1 = ((2 : Nat) : Int) := hP.p (by decide)
  have e10 : h 1 0 = ((3 : Nat) : Int) := hP.p (by decide)
  refine lv_aload_n hx hb dX11_image_33 rfl (lv_at hl 0 rfl) ?_
  refine hg_get hx hb hts hown hKa (zFok_mono (fun w hw => List.mem_cons_of_mem _ hw) zf_RX11_16) ha zkd_63 ⟨rfl, rfl⟩ (by decide) hH dX11_image_34 ?_
  rw [show (zty (0, 11, 7, [(30, 0, 2147483647), (64, 0, 2147483647), (36, 0, 2147483647), (48, 0, 2147483647), (49, 0, 2147483647), (53, 0, 2147483647), (60, 0, 2147483647)]) 1).1 = 62 + 2 from rfl, e11, z_dr]
  refine lv_iload_n hx hb dX11_image_37 rfl (lv_at hl 1 rfl) ?_
  refine hg_img hx hb hKa k2 hH hxk (by decide) dX11_image_38 ?_
  have ei : va_rf (zrf η (h 2 0)) = .ref (η.1 (1000 * (0 + 1) + 3)) := by
    rw [him]
    exact z_dr 0 _
  rw [ei]
  refine lv_aload_n hx hb dX11_image_39 rfl (lv_at hl 0 rfl) ?_
  refine hg_get hx hb hts hown hKa (zFok_mono (fun w hw => List.mem_cons_of_mem _ hw) zf_RX11_10) ha zkd_63 ⟨rfl, rfl⟩ (by decide) hH dX11_image_40 ?_
  rw [show (zty (0, 11, 7, [(30, 0, 2147483647), (64, 0, 2147483647), (36, 0, 2147483647), (48, 0, 2147483647), (49, 0, 2147483647), (53, 0, 2147483647), (60, 0, 2147483647)]) 0).1 = 28 + 2 from rfl, e10, z_dr]
  have hKP : zKP η D cy L Θ s := ⟨hKW, zST_of hN.2.1 hZ hLb hN.1⟩
  obtain ⟨v, h2, e1, r⟩ := tcp_i0 (n := 3) (h := h) (by decide) hPk hP.b (cBb_of hH hP.b k3 (by decide))
  have o1 : yok Θ (100031, ((1000 * (0 + 1) + 3 : Nat) : Int)) := by
    unfold yok
    rw [if_neg (by decide)]
    exact ⟨by simp only; omega, by simp only [Int.toNat_natCast]; exact kI⟩
  have o2 : yok Θ (100030, ((3 : Nat) : Int)) := by
    unfold yok
    rw [if_neg (by decide)]
    exact ⟨by simp only; omega, by simp only [Int.toNat_natCast]; exact k3⟩
  have v1 := (y_ref (η := η) (k := 29) o1 rfl).2.2
  have v2 := (y_ref (η := η) (k := 28) o2 rfl).2.2
  simp only [Int.toNat_natCast] at v1 v2
  refine lw_callY (kds := zkds) (vs := [(100031, ((1000 * (0 + 1) + 3 : Nat) : Int)), (100030, ((3 : Nat) : Int))]) (Qr := fun _ h' => tcR (1000 * (0 + 1)) 0 h h') (rest := []) zkp_ok zTW_good rfl (m_X9_copyFrom_i0 l) hnd S hKP (ycv_of yw_X9_copyFrom 382 dX11_image_43 zl_img rfl (by omega) (show 8 + (3 + 11) + 47 ≤ R.locals by omega) (zk_ex (kk := 29) (ts := [100030]) _ _ rfl (zkK ⟨29, by decide⟩) rfl rfl rfl)) hcs rfl (fun a ha => ?_) ⟨3, v, h2, e1, r⟩ hH hLA hS hq hl.1 (by decide) ?_ (fun a h' H1 locs1 hQ oa oH oz oq oS => ?_)
  · rcases List.mem_cons.mp ha with rfl | ha
    · exact o1
    · rcases List.mem_cons.mp ha with rfl | ha
      · exact o2
      · cases ha
  · simp only [List.map_cons, List.map_nil, v1, v2]
    rfl
  · exact K h' H1 locs1 oH hQ oS
set_option maxHeartbeats 4000000 in
set_option maxRecDepth 10000 in
theorem img_tl1 (l : Launch) {D : va_G} {cy : Nat → ClassId} {L : List Nat} {Θ : Nat → Option Nat} {h : Nat → Nat → Int} {H : Heap} {locs : List Loc} {cells slots : Nat} {p : Program} {e : Env} {R : Room} {s : State} {m : MethodId} {args : Array Value} {below : List Frame} {meth : Method} {c : Code} {Q : State → Prop} {w0 : Cond} {ls : Array Slot} {A : Nat → Prop} {base : Nat} {tb adK adV : Nat → Nat} {fv : Option Nat} {x : Int32} (S : CallFix p m c cX11_image 2 s args (w0 :: zTW) RX11) (hKW : KW D cy s) (hZ : zS0 base tb adK adV fv s)
    (hH : zH η zkds D vwCl cy L Θ h H) (hnd : L.Nodup) (hLb : ∀ q ∈ L, base ≤ q) (hN : nmC η adK L Θ h) (hP : cP h) (him : h 2 1 = ((1000 * (1 + 1) + 3 : Nat) : Int)) (hPk : cPb (1000 * (1 + 1)) h) (hLA : ∀ q ∈ L, A q) (hS : va_S A s.heap H locs) (hq : ∀ q : Nat, q < s.heap.size → q ∉ L → H[q]? = s.heap[q]?) (hcs : cells ≤ R.cells ∧ slots ≤ R.slots) (hfr : 3 ≤ R.frames) (hlo : 69 ≤ R.locals) (hl : lv_has ls 2 [(0, .ref (η.1 1)), (1, .int x)]) (hxk : x.toInt = ((1 : Nat) : Int))
    (K : ∀ (h' : Nat → Nat → Int) (H1 : Heap) (locs1 : List Loc), zH η zkds D vwCl cy L Θ h' H1 → tcR (1000 * (1 + 1)) 0 h h' → va_S A s.heap H1 locs1 → W p l e R s m args below meth c H1 locs1 cells slots Q (F0 m 46 ls [])) : W p l e R s m args below meth c H locs cells slots Q (F0 m 33 ls []) := by
  obtain ⟨hx, hb, hml, hown, hts⟩ := id S
  have hKa : va_K D vwCl (tyW cy) s := hKW.1
  have ha := hN.2.2.2.1
  obtain ⟨k2, k3, -⟩ := cK_0 hH ha hP
  have kI := cK_im (F := False) (g := h) hH ha hP (show 1 < 3 by decide) him
  have e11 : h 1 1 = ((2 : Nat) : Int) := hP.p (by decide)
  have e10 : h 1 0 = ((3 : Nat) : Int) := hP.p (by decide)
  refine lv_aload_n hx hb dX11_image_33 rfl (lv_at hl 0 rfl) ?_
  refine hg_get hx hb hts hown hKa (zFok_mono (fun w hw => List.mem_cons_of_mem _ hw) zf_RX11_16) ha zkd_63 ⟨rfl, rfl⟩ (by decide) hH dX11_image_34 ?_
  rw [show (zty (0, 11, 7, [(30, 0, 2147483647), (64, 0, 2147483647), (36, 0, 2147483647), (48, 0, 2147483647), (49, 0, 2147483647), (53, 0, 2147483647), (60, 0, 2147483647)]) 1).1 = 62 + 2 from rfl, e11, z_dr]
  refine lv_iload_n hx hb dX11_image_37 rfl (lv_at hl 1 rfl) ?_
  refine hg_img hx hb hKa k2 hH hxk (by decide) dX11_image_38 ?_
  have ei : va_rf (zrf η (h 2 1)) = .ref (η.1 (1000 * (1 + 1) + 3)) := by
    rw [him]
    exact z_dr 0 _
  rw [ei]
  refine lv_aload_n hx hb dX11_image_39 rfl (lv_at hl 0 rfl) ?_
  refine hg_get hx hb hts hown hKa (zFok_mono (fun w hw => List.mem_cons_of_mem _ hw) zf_RX11_10) ha zkd_63 ⟨rfl, rfl⟩ (by decide) hH dX11_image_40 ?_
  rw [show (zty (0, 11, 7, [(30, 0, 2147483647), (64, 0, 2147483647), (36, 0, 2147483647), (48, 0, 2147483647), (49, 0, 2147483647), (53, 0, 2147483647), (60, 0, 2147483647)]) 0).1 = 28 + 2 from rfl, e10, z_dr]
  have hKP : zKP η D cy L Θ s := ⟨hKW, zST_of hN.2.1 hZ hLb hN.1⟩
  obtain ⟨v, h2, e1, r⟩ := tcp_i1 (n := 3) (h := h) (by decide) hPk hP.b (cBb_of hH hP.b k3 (by decide))
  have o1 : yok Θ (100032, ((1000 * (1 + 1) + 3 : Nat) : Int)) := by
    unfold yok
    rw [if_neg (by decide)]
    exact ⟨by simp only; omega, by simp only [Int.toNat_natCast]; exact kI⟩
  have o2 : yok Θ (100030, ((3 : Nat) : Int)) := by
    unfold yok
    rw [if_neg (by decide)]
    exact ⟨by simp only; omega, by simp only [Int.toNat_natCast]; exact k3⟩
  have v1 := (y_ref (η := η) (k := 30) o1 rfl).2.2
  have v2 := (y_ref (η := η) (k := 28) o2 rfl).2.2
  simp only [Int.toNat_natCast] at v1 v2
  refine lw_callY (kds := zkds) (vs := [(100032, ((1000 * (1 + 1) + 3 : Nat) : Int)), (100030, ((3 : Nat) : Int))]) (Qr := fun _ h' => tcR (1000 * (1 + 1)) 0 h h') (rest := []) zkp_ok zTW_good rfl (m_X9_copyFrom_i1 l) hnd S hKP (ycv_of yw_X9_copyFrom 382 dX11_image_43 zl_img rfl (by omega) (show 8 + (3 + 11) + 47 ≤ R.locals by omega) (zk_ex (kk := 30) (ts := [100030]) _ _ rfl (zkK ⟨30, by decide⟩) rfl rfl rfl)) hcs rfl (fun a ha => ?_) ⟨3, v, h2, e1, r⟩ hH hLA hS hq hl.1 (by decide) ?_ (fun a h' H1 locs1 hQ oa oH oz oq oS => ?_)
  · rcases List.mem_cons.mp ha with rfl | ha
    · exact o1
    · rcases List.mem_cons.mp ha with rfl | ha
      · exact o2
      · cases ha
  · simp only [List.map_cons, List.map_nil, v1, v2]
    rfl
  · exact K h' H1 locs1 oH hQ oS
set_option maxHeartbeats 4000000 in
set_option maxRecDepth 10000 in
theorem img_tl2 (l : Launch) {D : va_G} {cy : Nat → ClassId} {L : List Nat} {Θ : Nat → Option Nat} {h : Nat → Nat → Int} {H : Heap} {locs : List Loc} {cells slots : Nat} {p : Program} {e : Env} {R : Room} {s : State} {m : MethodId} {args : Array Value} {below : List Frame} {meth : Method} {c : Code} {Q : State → Prop} {w0 : Cond} {ls : Array Slot} {A : Nat → Prop} {base : Nat} {tb adK adV : Nat → Nat} {fv : Option Nat} {x : Int32} (S : CallFix p m c cX11_image 2 s args (w0 :: zTW) RX11) (hKW : KW D cy s) (hZ : zS0 base tb adK adV fv s)
    (hH : zH η zkds D vwCl cy L Θ h H) (hnd : L.Nodup) (hLb : ∀ q ∈ L, base ≤ q) (hN : nmC η adK L Θ h) (hP : cP h) (him : h 2 2 = ((1000 * (2 + 1) + 3 : Nat) : Int)) (hPk : cPb (1000 * (2 + 1)) h) (hLA : ∀ q ∈ L, A q) (hS : va_S A s.heap H locs) (hq : ∀ q : Nat, q < s.heap.size → q ∉ L → H[q]? = s.heap[q]?) (hcs : cells ≤ R.cells ∧ slots ≤ R.slots) (hfr : 3 ≤ R.frames) (hlo : 69 ≤ R.locals) (hl : lv_has ls 2 [(0, .ref (η.1 1)), (1, .int x)]) (hxk : x.toInt = ((2 : Nat) : Int))
    (K : ∀ (h' : Nat → Nat → Int) (H1 : Heap) (locs1 : List Loc), zH η zkds D vwCl cy L Θ h' H1 → tcR (1000 * (2 + 1)) 0 h h' → va_S A s.heap H1 locs1 → W p l e R s m args below meth c H1 locs1 cells slots Q (F0 m 46 ls [])) : W p l e R s m args below meth c H locs cells slots Q (F0 m 33 ls []) := by
  obtain ⟨hx, hb, hml, hown, hts⟩ := id S
  have hKa : va_K D vwCl (tyW cy) s := hKW.1
  have ha := hN.2.2.2.1
  obtain ⟨k2, k3, -⟩ := cK_0 hH ha hP
  have kI := cK_im (F := False) (g := h) hH ha hP (show 2 < 3 by decide) him
  have e11 : h 1 1 = ((2 : Nat) : Int) := hP.p (by decide)
  have e10 : h 1 0 = ((3 : Nat) : Int) := hP.p (by decide)
  refine lv_aload_n hx hb dX11_image_33 rfl (lv_at hl 0 rfl) ?_
  refine hg_get hx hb hts hown hKa (zFok_mono (fun w hw => List.mem_cons_of_mem _ hw) zf_RX11_16) ha zkd_63 ⟨rfl, rfl⟩ (by decide) hH dX11_image_34 ?_
  rw [show (zty (0, 11, 7, [(30, 0, 2147483647), (64, 0, 2147483647), (36, 0, 2147483647), (48, 0, 2147483647), (49, 0, 2147483647), (53, 0, 2147483647), (60, 0, 2147483647)]) 1).1 = 62 + 2 from rfl, e11, z_dr]
  refine lv_iload_n hx hb dX11_image_37 rfl (lv_at hl 1 rfl) ?_
  refine hg_img hx hb hKa k2 hH hxk (by decide) dX11_image_38 ?_
  have ei : va_rf (zrf η (h 2 2)) = .ref (η.1 (1000 * (2 + 1) + 3)) := by
    rw [him]
    exact z_dr 0 _
  rw [ei]
  refine lv_aload_n hx hb dX11_image_39 rfl (lv_at hl 0 rfl) ?_
  refine hg_get hx hb hts hown hKa (zFok_mono (fun w hw => List.mem_cons_of_mem _ hw) zf_RX11_10) ha zkd_63 ⟨rfl, rfl⟩ (by decide) hH dX11_image_40 ?_
  rw [show (zty (0, 11, 7, [(30, 0, 2147483647), (64, 0, 2147483647), (36, 0, 2147483647), (48, 0, 2147483647), (49, 0, 2147483647), (53, 0, 2147483647), (60, 0, 2147483647)]) 0).1 = 28 + 2 from rfl, e10, z_dr]
  have hKP : zKP η D cy L Θ s := ⟨hKW, zST_of hN.2.1 hZ hLb hN.1⟩
  obtain ⟨v, h2, e1, r⟩ := tcp_i2 (n := 3) (h := h) (by decide) hPk hP.b (cBb_of hH hP.b k3 (by decide))
  have o1 : yok Θ (100033, ((1000 * (2 + 1) + 3 : Nat) : Int)) := by
    unfold yok
    rw [if_neg (by decide)]
    exact ⟨by simp only; omega, by simp only [Int.toNat_natCast]; exact kI⟩
  have o2 : yok Θ (100030, ((3 : Nat) : Int)) := by
    unfold yok
    rw [if_neg (by decide)]
    exact ⟨by simp only; omega, by simp only [Int.toNat_natCast]; exact k3⟩
  have v1 := (y_ref (η := η) (k := 31) o1 rfl).2.2
  have v2 := (y_ref (η := η) (k := 28) o2 rfl).2.2
  simp only [Int.toNat_natCast] at v1 v2
  refine lw_callY (kds := zkds) (vs := [(100033, ((1000 * (2 + 1) + 3 : Nat) : Int)), (100030, ((3 : Nat) : Int))]) (Qr := fun _ h' => tcR (1000 * (2 + 1)) 0 h h') (rest := []) zkp_ok zTW_good rfl (m_X9_copyFrom_i2 l) hnd S hKP (ycv_of yw_X9_copyFrom 382 dX11_image_43 zl_img rfl (by omega) (show 8 + (3 + 11) + 47 ≤ R.locals by omega) (zk_ex (kk := 31) (ts := [100030]) _ _ rfl (zkK ⟨31, by decide⟩) rfl rfl rfl)) hcs rfl (fun a ha => ?_) ⟨3, v, h2, e1, r⟩ hH hLA hS hq hl.1 (by decide) ?_ (fun a h' H1 locs1 hQ oa oH oz oq oS => ?_)
  · rcases List.mem_cons.mp ha with rfl | ha
    · exact o1
    · rcases List.mem_cons.mp ha with rfl | ha
      · exact o2
      · cases ha
  · simp only [List.map_cons, List.map_nil, v1, v2]
    rfl
  · exact K h' H1 locs1 oH hQ oS
end
section
variable {η : zRn}
theorem zup_q {h : Nat → Nat → Int} {im k cd : Nat} : (fun j => zrf η (zup h im k (cd : Int) im j)) = va_up (fun j => zrf η (h im j)) k (some (η.1 cd)) := by
  funext j
  unfold va_up
  by_cases hj : j = k
  · subst hj
    rw [zup_at]
    simp only [if_true]
    unfold zrf
    rw [if_neg (by omega), Int.toNat_natCast]
  · rw [zup_ne (fun q => hj q.2), if_neg hj]
theorem zl_t7 : Cond.classLink RX11 7 RX9 ∈ zTW ∧ Cond.instantiable RX9 7 ∈ zTW ∧ Cond.initialized RX9 ∈ zTW ∧ Cond.instanceMethod yX9_init ∈ zTW := ⟨zTi_1 30 (by decide +kernel) rfl, zTi_1 31 (by decide +kernel) rfl, zTi_1 2 (by decide +kernel) rfl, zTi_1 33 (by decide +kernel) rfl⟩
theorem zTi0_p : ∀ p ∈ cPLb, ∃ i : Fin 39, cdIo.getD i.1 0 = p.1 ∧ zct zkds zTi0 (cdI 0) i.1 p.2.1 = ((1000 * (0 + 1) + p.2.2 : Nat) : Int) := by decide +kernel
set_option maxHeartbeats 8000000 in
set_option maxRecDepth 100000 in
theorem img_bd0 (l : Launch) {D : va_G} {cy : Nat → ClassId} {L : List Nat} {Θ : Nat → Option Nat} {h : Nat → Nat → Int} {p : Program} {e : Env} {R : Room} {s : State} {m : MethodId} {args : Array Value} {below : List Frame} {meth : Method} {c : Code} {Q : State → Prop} {w0 : Cond} {ls : Array Slot} {A : Nat → Prop} {base : Nat} {tb adK adV : Nat → Nat} {fv : Option Nat} {x : Int32} (S : CallFix p m c cX11_image 2 s args (w0 :: zTW) RX11) (hKW : KW D cy s) (hZ : zS0 base tb adK adV fv s)
    (hH : zH η zkds D vwCl cy L Θ h s.heap) (hnd : L.Nodup) (hLb : ∀ q ∈ L, base ≤ q) (hbs : base ≤ s.heap.size) (hN : nmC η adK L Θ h) (hP : cP h) (hI : h 2 0 = -1 ∨ (h 2 0 = ((1000 * (0 + 1) + 3 : Nat) : Int) ∧ cPb (1000 * (0 + 1)) h)) (hAe : A = fun q => q ∈ L ∨ s.heap.size ≤ q) (hRc : 39 ≤ R.cells ∧ 1090 ≤ R.slots) (hfr : 4 ≤ R.frames) (hlo : 100 ≤ R.locals) (hl : lv_has ls 2 [(0, .ref (η.1 1)), (1, .int x)]) (hxk : x.toInt = ((0 : Nat) : Int))
    (K : ∀ (H1 : Heap) (locs1 : List Loc), imgO 0 η adK D cy L h s.heap.size H1 → va_S A s.heap H1 locs1 → W p l e R s m args below meth c H1 locs1 39 1090 Q (F0 m 46 ls [])) : W p l e R s m args below meth c s.heap [] 0 0 Q (F0 m 11 ls []) := by
  obtain ⟨hx, hb, hml, hown, hts⟩ := id S
  have hKa : va_K D vwCl (tyW cy) s := hKW.1
  have hLA : ∀ q ∈ L, A q := fun q hq => by rw [hAe]; exact Or.inl hq
  have hA : ∀ q : Nat, s.heap.size ≤ q → A q := fun q hq => by rw [hAe]; exact Or.inr hq
  have hS : va_S A s.heap s.heap [] := va_S.rf
  have ha := hN.2.2.2.1
  obtain ⟨k2, k3, -⟩ := cK_0 hH ha hP
  have e11 : h 1 1 = ((2 : Nat) : Int) := hP.p (by decide)
  have et : (zty (0, 11, 7, [(30, 0, 2147483647), (64, 0, 2147483647), (36, 0, 2147483647), (48, 0, 2147483647), (49, 0, 2147483647), (53, 0, 2147483647), (60, 0, 2147483647)]) 1).1 = 62 + 2 := rfl
  refine lv_aload_n hx hb dX11_image_11 rfl (lv_at hl 0 rfl) ?_
  refine hg_get hx hb hts hown hKa (zFok_mono (fun w hw => List.mem_cons_of_mem _ hw) zf_RX11_16) ha zkd_63 ⟨rfl, rfl⟩ (by decide) hH dX11_image_12 ?_
  rw [et, e11, z_dr]
  refine lv_iload_n hx hb dX11_image_15 rfl (lv_at hl 1 rfl) ?_
  refine hg_img hx hb hKa k2 hH hxk (by decide) dX11_image_16 ?_
  rcases hI with him | ⟨him, hPk⟩
  · have ei : va_rf (zrf η (h 2 0)) = .null := by
      rw [him]
      exact z_dm1 (η := η) 0
    rw [ei]
    refine lv_ifnonnullN hx hb dX11_image_17 ?_
    refine lv_aload_n hx hb dX11_image_20 rfl (lv_at hl 0 rfl) ?_
    refine hg_get hx hb hts hown hKa (zFok_mono (fun w hw => List.mem_cons_of_mem _ hw) zf_RX11_16) ha zkd_63 ⟨rfl, rfl⟩ (by decide) hH dX11_image_21 ?_
    rw [et, e11, z_dr]
    refine lv_iload_n hx hb dX11_image_24 rfl (lv_at hl 1 rfl) ?_
    have hD0 : va_D A ([] ++ va_pl L (zF η zkds cy Θ h)) := z_D hnd hLA
    refine va_new (ci := 9) (fs := [.null, .null, .null, .null, .null, .int 0, .int 0]) (C := RX9) (T := TX9) (N := 7) hx hb hts (fun w hw => List.mem_cons_of_mem _ (zx_9 w hw)) tyX9 tyX9_ok hown (hts _ (List.mem_cons_of_mem _ zl_t7.1)) (hts _ (List.mem_cons_of_mem _ zl_t7.2.1)) (hts _ (List.mem_cons_of_mem _ zl_t7.2.2.1)) hKa hH.1 hD0 hS hA rfl (by decide +kernel) (by omega) (by omega) dX11_image_25 (fun q3 H1 hP1 hD1 hS1 => ?_)
    have hq3 : q3 ∉ L := va_pl_fresh2 hD1
    have hi3 : (([] ++ va_pl L (zF η zkds cy Θ h)) ++ [(q3, (.inr (9, [.null, .null, .null, .null, .null, .int 0, .int 0]) : va_E))])[([] ++ va_pl L (zF η zkds cy Θ h)).length]? = some (q3, .inr (9, [.null, .null, .null, .null, .null, .int 0, .int 0])) := by rw [List.getElem?_append_right (Nat.le_refl _), Nat.sub_self]; rfl
    have hA3 : s.heap.size ≤ q3 := by
      have h9 : A q3 := hD1.2 _ _ hi3
      rw [hAe] at h9
      exact h9.resolve_left hq3
    have hH1 : zH η zkds D vwCl cy L Θ h H1 := ⟨fun k q hk => hP1 k q (by rw [List.getElem?_append_left (List.getElem?_eq_some_iff.mp hk).1]; exact hk), hH.2⟩
    have hPc : va_P D vwCl [(q3, .inr (9, [.null, .null, .null, .null, .null, .int 0, .int 0]))] H1 := fun k q hk => by
      cases k with
      | zero =>
        have e9 : q = (q3, .inr (9, [.null, .null, .null, .null, .null, .int 0, .int 0])) := (Option.some.inj hk).symm
        rw [e9]
        exact hP1 _ _ hi3
      | succ k => simp at hk
    have hDc : va_D A [(q3, (.inr (9, [.null, .null, .null, .null, .null, .int 0, .int 0]) : va_E))] := by
      refine ⟨fun i j x y hx hy _ => ?_, fun k q hk => ?_⟩
      · have := (List.getElem?_eq_some_iff.mp hx).1
        have := (List.getElem?_eq_some_iff.mp hy).1
        simp only [List.length_cons, List.length_nil] at *
        omega
      · cases k with
        | zero =>
          have e9 : q = (q3, .inr (9, [.null, .null, .null, .null, .null, .int 0, .int 0])) := (Option.some.inj hk).symm
          rw [e9]
          exact hA q3 hA3
        | succ k => simp at hk
    have hFc : ∀ q, va_A [(q3, (.inr (9, [.null, .null, .null, .null, .null, .int 0, .int 0]) : va_E))] H1.size q → A q := fun q hq => by
      rcases z_vaA1 hq with h9 | h9
      · rw [h9]; exact hA q3 hA3
      · exact hA q (Nat.le_trans hS1.1 h9)
    refine W.widen (k := 1) (n := 7) (by decide +kernel) (by decide +kernel) ?_
    refine lv_dup hx hb dX11_image_28 rfl ?_
    refine va_callv (va_runIN (As := []) (rest := [.ref q3, .int x, .ref (η.1 2)]) S (c_X9_init l D cy q3 H1.size) ⟨va_cnB 0 hts (z_gdin zin_X9_init) rfl rfl rfl hKW.2.1.1 (hts _ (List.mem_cons_of_mem _ zl_t7.2.2.1)) (by decide +kernel) ⟨Nat.le_trans (Nat.le_of_ble_eq_true rfl) hfr, Nat.le_trans (Nat.le_of_ble_eq_true rfl) hlo⟩, rfl, hts _ (List.mem_cons_of_mem _ zl_t7.2.2.2)⟩ ⟨pwB, fun U hU hW => ⟨rfl, PW.of hU hW hKW hPc hDc⟩⟩ rfl rfl hl.1 rfl (lv_room (Nat.le_of_ble_eq_true rfl)) dX11_image_29 ⟨by omega, by omega⟩) hS1 (fun q _ h9 => hFc q h9) hFc (fun u t H2 locs2 ht hvm _ hB hz2 hk2 hS2 => ?_)
    obtain ⟨q_1, q_7, q_8, q_33, q_48, q_6, q_9, q_21, q_14, q_15, q_16, q_17, q_18, q_19, q_20, q_26, q_27, q_28, q_29, q_30, q_31, q_32, q_34, q_41, q_39, q_40, q_46, q_47, q_49, q_58, q_54, q_55, q_56, q_57, q_63, q_64, q_65, q_66, hP2, hD2⟩ := hB
    rw [ht] at hP2
    refine W.widen (k := 39) (n := 1090) (by decide +kernel) (by decide +kernel) ?_
    generalize hAD : (fun i => ([q3, q_1, q_6, q_7, q_8, q_9, q_14, q_15, q_16, q_17, q_18, q_19, q_20, q_21, q_26, q_27, q_28, q_29, q_30, q_31, q_32, q_33, q_34, q_39, q_40, q_41, q_46, q_47, q_48, q_49, q_54, q_55, q_56, q_57, q_58, q_63, q_64, q_65, q_66] : List Nat).getD i 0) = AD
    have hat := zi0_at hP2
    rw [hAD] at hat
    have hj : zinj 39 AD := by rw [← hAD]; exact zAD_inj hD2
    have hAA : ∀ i, i < 39 → AD i = q3 ∨ H1.size ≤ AD i := fun i hi => by rw [← hAD]; exact z_vaA1 (zAD_A hD2 hi)
    have hA0 : AD 0 = q3 := by rw [← hAD]; rfl
    clear hP2 hD2 hAD
    have hAb : ∀ i, i < 39 → s.heap.size ≤ AD i := fun i hi => by
      rcases hAA i hi with h9 | h9
      · omega
      · have := hS1.1
        omega
    have hAL : ∀ i, i < 39 → AD i ∉ L := fun i hi h9 => by
      rcases hAA i hi with h8 | h8
      · rw [h8] at h9
        exact hq3 h9
      · have := zH_lt hH1 h9
        omega
    have hH2 : zH η zkds D vwCl cy L Θ h H2 := zH_kept hH1 (fun q hq => hk2 q (zH_lt hH1 hq) (fun h9 => by
      rcases z_vaA1 h9 with h8 | h8
      · rw [h8] at hq
        exact hq3 hq
      · have := zH_lt hH1 hq
        omega))
    have hno : ∀ i, i < 39 → Θ (cdI 0 i) = none := fun i hi => hN.2.2.2.2 0 (by decide) him _ (by have := cdI_b (k := 0) hi; omega) (by have := cdI_b (k := 0) hi; omega)
    have hne : ∀ q kk, Θ q = some kk → ∀ i, i < 39 → cdI 0 i ≠ q := fun q kk hq i hi h9 => by
      have := hno i hi
      rw [h9, hq] at this
      cases this
    obtain ⟨η', hη'⟩ : ∃ η' : zRn, η' = zηx 39 (cdI 0) AD η := ⟨_, rfl⟩
    have n1 : ∀ i, i < 39 → η'.1 (cdI 0 i) = AD i := fun i hi => by rw [hη']; exact zηx1 (cdI_j 0) hi
    have n2 : ∀ i, i < 39 → η'.2 (AD i) = cdI 0 i := fun i hi => by rw [hη']; exact zηx2 hj hi
    have n3 : ∀ q kk, Θ q = some kk → η'.1 q = η.1 q := fun q kk hq => by rw [hη']; exact zηx1n (hne q kk hq)
    have n4 : ∀ q ∈ L, η'.2 q = η.2 q := fun q hq => by rw [hη']; exact zηx2n (fun i hi h9 => hAL i hi (by rw [h9]; exact hq))
    have n5 : ∀ i, i < 15 → η'.1 (1000000 + i) = adK i := fun i hi => by
      rw [hη', zηx1n (fun j hj h9 => by have := cdI_b (k := 0) hj; omega)]
      exact hN.2.1 i hi
    clear hη'
    have hH2' : zH η' zkds D vwCl cy L Θ h H2 := zH_ren zkds_q hH2 hN.2.2.1 n3 n4
    have hW2 := zH_new (T := zTi0) (cd := cdI 0) (AD := AD) n1 n2 hH2' zTi0_ok zTi0_ox (cdI_j 0) (fun i hi => by have := cdI_b (k := 0) hi; omega) hno hAL hat
    have hnd2 : (L ++ (List.range zTi0.length).map AD).Nodup := z_ndnew hnd hj hAL
    have hN2 : zNm (zTh zTi0 (cdI 0) Θ) := zNm_app hN.1 zTi_ns.1 (cdI_j 0) (fun i hi => by have := cdI_b (k := 0) hi; omega)
    have hold : ∀ q kk, Θ q = some kk → zTh zTi0 (cdI 0) Θ q = some kk := fun q kk hq => by
      rw [zTh_ne (T := zTi0) (hne q kk hq)]
      exact hq
    have hout : ∀ q, (∀ i, i < 39 → cdI 0 i ≠ q) → zTh zTi0 (cdI 0) Θ q = Θ q ∧ zhh zkds zTi0 (cdI 0) h q = h q := fun q hq => ⟨zTh_ne (T := zTi0) hq, zhh_ne (T := zTi0) hq⟩
    have hin : ∀ i, i < 39 → (∃ kk, zTh zTi0 (cdI 0) Θ (cdI 0 i) = some kk) ∧ zhh zkds zTi0 (cdI 0) h (cdI 0 i) = zct zkds zTi0 (cdI 0) i := fun i hi => ⟨⟨_, zTh_at (T := zTi0) (cdI_j 0) hi⟩, zhh_at (T := zTi0) (cdI_j 0) hi⟩
    have hn0 : zTh zTi0 (cdI 0) Θ (cdI 0 0) = some 29 := zTh_at (T := zTi0) (i := 0) (cdI_j 0) (by decide)
    have hη0 : η'.1 (cdI 0 0) = q3 := (n1 0 (by decide)).trans hA0
    generalize zTh zTi0 (cdI 0) Θ = Θ2 at hW2 hN2 hold hn0 hout hin
    generalize zhh zkds zTi0 (cdI 0) h = h2 at hW2 hout hin
    obtain ⟨L2, hL2⟩ : ∃ L2, L2 = L ++ (List.range zTi0.length).map AD := ⟨_, rfl⟩
    rw [← hL2] at hW2 hnd2
    have hL2c : ∀ q ∈ L2, q ∈ L ∨ ∃ i, i < 39 ∧ AD i = q := fun q hq => by
      rw [hL2] at hq
      rcases List.mem_append.mp hq with h9 | h9
      · exact Or.inl h9
      · obtain ⟨i, hi, rfl⟩ := List.mem_map.mp h9
        exact Or.inr ⟨i, List.mem_range.mp hi, rfl⟩
    have hLL2 : ∀ q ∈ L, q ∈ L2 := fun q hq => by rw [hL2]; exact List.mem_append_left _ hq
    have hL2A : ∀ q ∈ L2, q ∈ L ∨ s.heap.size ≤ q := fun q hq => by
      rcases hL2c q hq with h9 | ⟨i, hi, rfl⟩
      · exact Or.inl h9
      · exact Or.inr (hAb i hi)
    have hA2 : ∀ q ∈ L2, A q := fun q hq => by rw [hAe]; exact hL2A q hq
    have h2i := hold 2 62 k2
    have h21 := hold 1 63 ha
    obtain ⟨p0, hp0⟩ := zH_get hW2 h2i zkd_62 (by decide)
    obtain ⟨pk, hpk⟩ := zH_get hW2 hn0 zkd_29 (by decide)
    have hD2 : va_D A ([] ++ va_pl L2 (zF η' zkds cy Θ2 h2)) := z_D hnd2 hA2
    have hp0' := hp0
    rw [zE_q rfl] at hp0
    rw [zE_o rfl, hη0] at hpk
    obtain ⟨v1, v2⟩ := z_vin (i := x) (n := 3) (by omega) (by omega)
    have ek : x.toNatClampNeg = 0 := by rw [v2]; omega
    rw [← n3 2 62 k2]
    refine va_astq hx hb hKa hW2.1 hD2 hS2 p0 6 pk 9 hp0 rfl hpk rfl v1 dX11_image_32 (fun H3 locs3 hP3 hD3 hS3 => ?_)
    rw [ek, ← hη0, ← zup_q] at hP3
    have hW3 : zH η' zkds D vwCl cy L2 Θ2 (zup h2 2 0 ((cdI 0 0 : Nat) : Int)) H3 := zH_put hW2 hD2 h2i zkd_62 (by decide) (by decide) (by
      refine ⟨Or.inr ⟨Int.natCast_nonneg _, by rw [Int.toNat_natCast]; exact hn0⟩, ?_, ?_⟩
      · show (-1 : Int) ≤ _
        omega
      · show _ ≤ (2147483647 : Int)
        have := cdI_b (k := 0) (i := 0) (by decide)
        omega) hp0' (by rw [zE_q rfl]; exact hP3)
    have fr3 : ∀ a j, ¬ (1000 * (0 + 1) ≤ a ∧ a < 1000 * (0 + 2)) → ¬ (a = 2 ∧ j = 0) → (zup h2 2 0 ((cdI 0 0 : Nat) : Int)) a j = h a j := fun a j w1 w2 => by
      rw [zup_ne w2, (hout a (fun i hi h9 => by have := cdI_b (k := 0) hi; omega)).2]
    have g3i : (zup h2 2 0 ((cdI 0 0 : Nat) : Int)) 2 0 = ((1000 * (0 + 1) + 3 : Nat) : Int) := zup_at _ _ _ _
    have g3p : cPb (1000 * (0 + 1)) (zup h2 2 0 ((cdI 0 0 : Nat) : Int)) := fun p hp => by
      obtain ⟨i, c1, c2⟩ := zTi0_p p hp
      have c3 := (hin i.1 i.2).2
      unfold cdI at c3
      rw [c1] at c3
      rw [zup_ne (by omega), c3]
      exact c2
    generalize zup h2 2 0 ((cdI 0 0 : Nat) : Int) = h3 at hW3 fr3 g3i g3p
    have hP3' : cP h3 := hP.fr (fun a j w => fr3 a j (by
      obtain ⟨p, hp, e⟩ := List.any_eq_true.mp w
      have e1 : p.1 = a ∧ p.2.1 = j := by simpa using e
      have := cPL_b p hp
      omega) (by
      obtain ⟨p, hp, e⟩ := List.any_eq_true.mp w
      have e1 : p.1 = a ∧ p.2.1 = j := by simpa using e
      have : ∀ p ∈ cPL, p.1 ≠ 2 := by decide +kernel
      have := this p hp
      omega))
    have hN3 : nmC η' adK L2 Θ2 h3 := by
      refine ⟨hN2, n5, fun q hq => ?_, h21, fun i hi w a a1 a2 => ?_⟩
      · rcases hL2c q hq with h9 | ⟨i, hi, rfl⟩
        · obtain ⟨kk, ekk⟩ := hN.2.2.1 q h9
          exact ⟨kk, by rw [n4 q h9]; exact hold _ _ ekk⟩
        · rw [n2 i hi]
          exact (hin i hi).1
      · by_cases hik : i = 0
        · rw [hik, g3i] at w
          omega
        · rw [(hout a (fun j hj h9 => by have := cdI_b (k := 0) hj; omega)).1]
          exact hN.2.2.2.2 i hi (by rw [← fr3 2 i (by omega) (by omega)]; exact w) a a1 a2
    rw [← n3 1 63 ha] at hl
    refine img_tl0 l S hKW hZ hW3 hnd2 (fun q hq => (hL2A q hq).elim (fun h9 => hLb q h9) (fun h9 => by omega)) hN3 hP3' g3i g3p hA2 hS3 (fun q h8 h9 => hS3.2.1 q h8 (fun h7 => by
      rw [hAe] at h7
      rcases h7 with h7 | h7
      · exact h9 (hLL2 q h7)
      · omega)) ⟨hRc.1, hRc.2⟩ (by omega) (by omega) hl hxk (fun h' H4 locs4 hW4 hT4 hS4 => ?_)
    exact K H4 locs4 ⟨η', L2, Θ2, h3, h', hW4, hnd2, hL2A, hN3.keep (fun k => hT4.2.2.2.2.2.2.2.2.2 _ _ (by omega)), n3 1 63 ha, ⟨fr3, g3i, g3p, (cBb_of hW3 g3p (show Θ2 (1000 * (0 + 1) + 3) = some 29 from hn0) (by decide)).1.2⟩, hT4⟩ hS4
  · have ei : va_rf (zrf η (h 2 0)) = .ref (η.1 (1000 * (0 + 1) + 3)) := by
      rw [him]
      exact z_dr 0 _
    rw [ei]
    refine lv_ifnonnull (tgt := 33) hx hb dX11_image_17 (by decide) ?_
    refine W.widen (k := 39) (n := 1090) (by decide +kernel) (by decide +kernel) ?_
    refine img_tl0 l S hKW hZ hH hnd hLb hN hP him hPk hLA hS (fun q _ _ => rfl) ⟨hRc.1, hRc.2⟩ (by omega) (by omega) hl hxk (fun h' H4 locs4 hW4 hT4 hS4 => ?_)
    exact K H4 locs4 ⟨η, L, Θ, h, h', hW4, hnd, fun q hq => Or.inl hq, hN.keep (fun k => hT4.2.2.2.2.2.2.2.2.2 _ _ (by omega)), rfl, ⟨fun a j _ _ => rfl, him, hPk, (cBb_of hH hPk (cK_im (F := False) (g := h) hH ha hP (show 0 < 3 by decide) him) (by decide)).1.2⟩, hT4⟩ hS4
theorem zTi1_p : ∀ p ∈ cPLb, ∃ i : Fin 39, cdIo.getD i.1 0 = p.1 ∧ zct zkds zTi1 (cdI 1) i.1 p.2.1 = ((1000 * (1 + 1) + p.2.2 : Nat) : Int) := by decide +kernel
set_option maxHeartbeats 8000000 in
set_option maxRecDepth 100000 in
theorem img_bd1 (l : Launch) {D : va_G} {cy : Nat → ClassId} {L : List Nat} {Θ : Nat → Option Nat} {h : Nat → Nat → Int} {p : Program} {e : Env} {R : Room} {s : State} {m : MethodId} {args : Array Value} {below : List Frame} {meth : Method} {c : Code} {Q : State → Prop} {w0 : Cond} {ls : Array Slot} {A : Nat → Prop} {base : Nat} {tb adK adV : Nat → Nat} {fv : Option Nat} {x : Int32} (S : CallFix p m c cX11_image 2 s args (w0 :: zTW) RX11) (hKW : KW D cy s) (hZ : zS0 base tb adK adV fv s)
    (hH : zH η zkds D vwCl cy L Θ h s.heap) (hnd : L.Nodup) (hLb : ∀ q ∈ L, base ≤ q) (hbs : base ≤ s.heap.size) (hN : nmC η adK L Θ h) (hP : cP h) (hI : h 2 1 = -1 ∨ (h 2 1 = ((1000 * (1 + 1) + 3 : Nat) : Int) ∧ cPb (1000 * (1 + 1)) h)) (hAe : A = fun q => q ∈ L ∨ s.heap.size ≤ q) (hRc : 39 ≤ R.cells ∧ 1090 ≤ R.slots) (hfr : 4 ≤ R.frames) (hlo : 100 ≤ R.locals) (hl : lv_has ls 2 [(0, .ref (η.1 1)), (1, .int x)]) (hxk : x.toInt = ((1 : Nat) : Int))
    (K : ∀ (H1 : Heap) (locs1 : List Loc), imgO 1 η adK D cy L h s.heap.size H1 → va_S A s.heap H1 locs1 → W p l e R s m args below meth c H1 locs1 39 1090 Q (F0 m 46 ls [])) : W p l e R s m args below meth c s.heap [] 0 0 Q (F0 m 11 ls []) := by
  obtain ⟨hx, hb, hml, hown, hts⟩ := id S
  have hKa : va_K D vwCl (tyW cy) s := hKW.1
  have hLA : ∀ q ∈ L, A q := fun q hq => by rw [hAe]; exact Or.inl hq
  have hA : ∀ q : Nat, s.heap.size ≤ q → A q := fun q hq => by rw [hAe]; exact Or.inr hq
  have hS : va_S A s.heap s.heap [] := va_S.rf
  have ha := hN.2.2.2.1
  obtain ⟨k2, k3, -⟩ := cK_0 hH ha hP
  have e11 : h 1 1 = ((2 : Nat) : Int) := hP.p (by decide)
  have et : (zty (0, 11, 7, [(30, 0, 2147483647), (64, 0, 2147483647), (36, 0, 2147483647), (48, 0, 2147483647), (49, 0, 2147483647), (53, 0, 2147483647), (60, 0, 2147483647)]) 1).1 = 62 + 2 := rfl
  refine lv_aload_n hx hb dX11_image_11 rfl (lv_at hl 0 rfl) ?_
  refine hg_get hx hb hts hown hKa (zFok_mono (fun w hw => List.mem_cons_of_mem _ hw) zf_RX11_16) ha zkd_63 ⟨rfl, rfl⟩ (by decide) hH dX11_image_12 ?_
  rw [et, e11, z_dr]
  refine lv_iload_n hx hb dX11_image_15 rfl (lv_at hl 1 rfl) ?_
  refine hg_img hx hb hKa k2 hH hxk (by decide) dX11_image_16 ?_
  rcases hI with him | ⟨him, hPk⟩
  · have ei : va_rf (zrf η (h 2 1)) = .null := by
      rw [him]
      exact z_dm1 (η := η) 0
    rw [ei]
    refine lv_ifnonnullN hx hb dX11_image_17 ?_
    refine lv_aload_n hx hb dX11_image_20 rfl (lv_at hl 0 rfl) ?_
    refine hg_get hx hb hts hown hKa (zFok_mono (fun w hw => List.mem_cons_of_mem _ hw) zf_RX11_16) ha zkd_63 ⟨rfl, rfl⟩ (by decide) hH dX11_image_21 ?_
    rw [et, e11, z_dr]
    refine lv_iload_n hx hb dX11_image_24 rfl (lv_at hl 1 rfl) ?_
    have hD0 : va_D A ([] ++ va_pl L (zF η zkds cy Θ h)) := z_D hnd hLA
    refine va_new (ci := 9) (fs := [.null, .null, .null, .null, .null, .int 0, .int 0]) (C := RX9) (T := TX9) (N := 7) hx hb hts (fun w hw => List.mem_cons_of_mem _ (zx_9 w hw)) tyX9 tyX9_ok hown (hts _ (List.mem_cons_of_mem _ zl_t7.1)) (hts _ (List.mem_cons_of_mem _ zl_t7.2.1)) (hts _ (List.mem_cons_of_mem _ zl_t7.2.2.1)) hKa hH.1 hD0 hS hA rfl (by decide +kernel) (by omega) (by omega) dX11_image_25 (fun q3 H1 hP1 hD1 hS1 => ?_)
    have hq3 : q3 ∉ L := va_pl_fresh2 hD1
    have hi3 : (([] ++ va_pl L (zF η zkds cy Θ h)) ++ [(q3, (.inr (9, [.null, .null, .null, .null, .null, .int 0, .int 0]) : va_E))])[([] ++ va_pl L (zF η zkds cy Θ h)).length]? = some (q3, .inr (9, [.null, .null, .null, .null, .null, .int 0, .int 0])) := by rw [List.getElem?_append_right (Nat.le_refl _), Nat.sub_self]; rfl
    have hA3 : s.heap.size ≤ q3 := by
      have h9 : A q3 := hD1.2 _ _ hi3
      rw [hAe] at h9
      exact h9.resolve_left hq3
    have hH1 : zH η zkds D vwCl cy L Θ h H1 := ⟨fun k q hk => hP1 k q (by rw [List.getElem?_append_left (List.getElem?_eq_some_iff.mp hk).1]; exact hk), hH.2⟩
    have hPc : va_P D vwCl [(q3, .inr (9, [.null, .null, .null, .null, .null, .int 0, .int 0]))] H1 := fun k q hk => by
      cases k with
      | zero =>
        have e9 : q = (q3, .inr (9, [.null, .null, .null, .null, .null, .int 0, .int 0])) := (Option.some.inj hk).symm
        rw [e9]
        exact hP1 _ _ hi3
      | succ k => simp at hk
    have hDc : va_D A [(q3, (.inr (9, [.null, .null, .null, .null, .null, .int 0, .int 0]) : va_E))] := by
      refine ⟨fun i j x y hx hy _ => ?_, fun k q hk => ?_⟩
      · have := (List.getElem?_eq_some_iff.mp hx).1
        have := (List.getElem?_eq_some_iff.mp hy).1
        simp only [List.length_cons, List.length_nil] at *
        omega
      · cases k with
        | zero =>
          have e9 : q = (q3, .inr (9, [.null, .null, .null, .null, .null, .int 0, .int 0])) := (Option.some.inj hk).symm
          rw [e9]
          exact hA q3 hA3
        | succ k => simp at hk
    have hFc : ∀ q, va_A [(q3, (.inr (9, [.null, .null, .null, .null, .null, .int 0, .int 0]) : va_E))] H1.size q → A q := fun q hq => by
      rcases z_vaA1 hq with h9 | h9
      · rw [h9]; exact hA q3 hA3
      · exact hA q (Nat.le_trans hS1.1 h9)
    refine W.widen (k := 1) (n := 7) (by decide +kernel) (by decide +kernel) ?_
    refine lv_dup hx hb dX11_image_28 rfl ?_
    refine va_callv (va_runIN (As := []) (rest := [.ref q3, .int x, .ref (η.1 2)]) S (c_X9_init l D cy q3 H1.size) ⟨va_cnB 0 hts (z_gdin zin_X9_init) rfl rfl rfl hKW.2.1.1 (hts _ (List.mem_cons_of_mem _ zl_t7.2.2.1)) (by decide +kernel) ⟨Nat.le_trans (Nat.le_of_ble_eq_true rfl) hfr, Nat.le_trans (Nat.le_of_ble_eq_true rfl) hlo⟩, rfl, hts _ (List.mem_cons_of_mem _ zl_t7.2.2.2)⟩ ⟨pwB, fun U hU hW => ⟨rfl, PW.of hU hW hKW hPc hDc⟩⟩ rfl rfl hl.1 rfl (lv_room (Nat.le_of_ble_eq_true rfl)) dX11_image_29 ⟨by omega, by omega⟩) hS1 (fun q _ h9 => hFc q h9) hFc (fun u t H2 locs2 ht hvm _ hB hz2 hk2 hS2 => ?_)
    obtain ⟨q_1, q_7, q_8, q_33, q_48, q_6, q_9, q_21, q_14, q_15, q_16, q_17, q_18, q_19, q_20, q_26, q_27, q_28, q_29, q_30, q_31, q_32, q_34, q_41, q_39, q_40, q_46, q_47, q_49, q_58, q_54, q_55, q_56, q_57, q_63, q_64, q_65, q_66, hP2, hD2⟩ := hB
    rw [ht] at hP2
    refine W.widen (k := 39) (n := 1090) (by decide +kernel) (by decide +kernel) ?_
    generalize hAD : (fun i => ([q3, q_1, q_6, q_7, q_8, q_9, q_14, q_15, q_16, q_17, q_18, q_19, q_20, q_21, q_26, q_27, q_28, q_29, q_30, q_31, q_32, q_33, q_34, q_39, q_40, q_41, q_46, q_47, q_48, q_49, q_54, q_55, q_56, q_57, q_58, q_63, q_64, q_65, q_66] : List Nat).getD i 0) = AD
    have hat := zi1_at hP2
    rw [hAD] at hat
    have hj : zinj 39 AD := by rw [← hAD]; exact zAD_inj hD2
    have hAA : ∀ i, i < 39 → AD i = q3 ∨ H1.size ≤ AD i := fun i hi => by rw [← hAD]; exact z_vaA1 (zAD_A hD2 hi)
    have hA0 : AD 0 = q3 := by rw [← hAD]; rfl
    clear hP2 hD2 hAD
    have hAb : ∀ i, i < 39 → s.heap.size ≤ AD i := fun i hi => by
      rcases hAA i hi with h9 | h9
      · omega
      · have := hS1.1
        omega
    have hAL : ∀ i, i < 39 → AD i ∉ L := fun i hi h9 => by
      rcases hAA i hi with h8 | h8
      · rw [h8] at h9
        exact hq3 h9
      · have := zH_lt hH1 h9
        omega
    have hH2 : zH η zkds D vwCl cy L Θ h H2 := zH_kept hH1 (fun q hq => hk2 q (zH_lt hH1 hq) (fun h9 => by
      rcases z_vaA1 h9 with h8 | h8
      · rw [h8] at hq
        exact hq3 hq
      · have := zH_lt hH1 hq
        omega))
    have hno : ∀ i, i < 39 → Θ (cdI 1 i) = none := fun i hi => hN.2.2.2.2 1 (by decide) him _ (by have := cdI_b (k := 1) hi; omega) (by have := cdI_b (k := 1) hi; omega)
    have hne : ∀ q kk, Θ q = some kk → ∀ i, i < 39 → cdI 1 i ≠ q := fun q kk hq i hi h9 => by
      have := hno i hi
      rw [h9, hq] at this
      cases this
    obtain ⟨η', hη'⟩ : ∃ η' : zRn, η' = zηx 39 (cdI 1) AD η := ⟨_, rfl⟩
    have n1 : ∀ i, i < 39 → η'.1 (cdI 1 i) = AD i := fun i hi => by rw [hη']; exact zηx1 (cdI_j 1) hi
    have n2 : ∀ i, i < 39 → η'.2 (AD i) = cdI 1 i := fun i hi => by rw [hη']; exact zηx2 hj hi
    have n3 : ∀ q kk, Θ q = some kk → η'.1 q = η.1 q := fun q kk hq => by rw [hη']; exact zηx1n (hne q kk hq)
    have n4 : ∀ q ∈ L, η'.2 q = η.2 q := fun q hq => by rw [hη']; exact zηx2n (fun i hi h9 => hAL i hi (by rw [h9]; exact hq))
    have n5 : ∀ i, i < 15 → η'.1 (1000000 + i) = adK i := fun i hi => by
      rw [hη', zηx1n (fun j hj h9 => by have := cdI_b (k := 1) hj; omega)]
      exact hN.2.1 i hi
    clear hη'
    have hH2' : zH η' zkds D vwCl cy L Θ h H2 := zH_ren zkds_q hH2 hN.2.2.1 n3 n4
    have hW2 := zH_new (T := zTi1) (cd := cdI 1) (AD := AD) n1 n2 hH2' zTi1_ok zTi1_ox (cdI_j 1) (fun i hi => by have := cdI_b (k := 1) hi; omega) hno hAL hat
    have hnd2 : (L ++ (List.range zTi1.length).map AD).Nodup := z_ndnew hnd hj hAL
    have hN2 : zNm (zTh zTi1 (cdI 1) Θ) := zNm_app hN.1 zTi_ns.2.1 (cdI_j 1) (fun i hi => by have := cdI_b (k := 1) hi; omega)
    have hold : ∀ q kk, Θ q = some kk → zTh zTi1 (cdI 1) Θ q = some kk := fun q kk hq => by
      rw [zTh_ne (T := zTi1) (hne q kk hq)]
      exact hq
    have hout : ∀ q, (∀ i, i < 39 → cdI 1 i ≠ q) → zTh zTi1 (cdI 1) Θ q = Θ q ∧ zhh zkds zTi1 (cdI 1) h q = h q := fun q hq => ⟨zTh_ne (T := zTi1) hq, zhh_ne (T := zTi1) hq⟩
    have hin : ∀ i, i < 39 → (∃ kk, zTh zTi1 (cdI 1) Θ (cdI 1 i) = some kk) ∧ zhh zkds zTi1 (cdI 1) h (cdI 1 i) = zct zkds zTi1 (cdI 1) i := fun i hi => ⟨⟨_, zTh_at (T := zTi1) (cdI_j 1) hi⟩, zhh_at (T := zTi1) (cdI_j 1) hi⟩
    have hn0 : zTh zTi1 (cdI 1) Θ (cdI 1 0) = some 30 := zTh_at (T := zTi1) (i := 0) (cdI_j 1) (by decide)
    have hη0 : η'.1 (cdI 1 0) = q3 := (n1 0 (by decide)).trans hA0
    generalize zTh zTi1 (cdI 1) Θ = Θ2 at hW2 hN2 hold hn0 hout hin
    generalize zhh zkds zTi1 (cdI 1) h = h2 at hW2 hout hin
    obtain ⟨L2, hL2⟩ : ∃ L2, L2 = L ++ (List.range zTi1.length).map AD := ⟨_, rfl⟩
    rw [← hL2] at hW2 hnd2
    have hL2c : ∀ q ∈ L2, q ∈ L ∨ ∃ i, i < 39 ∧ AD i = q := fun q hq => by
      rw [hL2] at hq
      rcases List.mem_append.mp hq with h9 | h9
      · exact Or.inl h9
      · obtain ⟨i, hi, rfl⟩ := List.mem_map.mp h9
        exact Or.inr ⟨i, List.mem_range.mp hi, rfl⟩
    have hLL2 : ∀ q ∈ L, q ∈ L2 := fun q hq => by rw [hL2]; exact List.mem_append_left _ hq
    have hL2A : ∀ q ∈ L2, q ∈ L ∨ s.heap.size ≤ q := fun q hq => by
      rcases hL2c q hq with h9 | ⟨i, hi, rfl⟩
      · exact Or.inl h9
      · exact Or.inr (hAb i hi)
    have hA2 : ∀ q ∈ L2, A q := fun q hq => by rw [hAe]; exact hL2A q hq
    have h2i := hold 2 62 k2
    have h21 := hold 1 63 ha
    obtain ⟨p0, hp0⟩ := zH_get hW2 h2i zkd_62 (by decide)
    obtain ⟨pk, hpk⟩ := zH_get hW2 hn0 zkd_30 (by decide)
    have hD2 : va_D A ([] ++ va_pl L2 (zF η' zkds cy Θ2 h2)) := z_D hnd2 hA2
    have hp0' := hp0
    rw [zE_q rfl] at hp0
    rw [zE_o rfl, hη0] at hpk
    obtain ⟨v1, v2⟩ := z_vin (i := x) (n := 3) (by omega) (by omega)
    have ek : x.toNatClampNeg = 1 := by rw [v2]; omega
    rw [← n3 2 62 k2]
    refine va_astq hx hb hKa hW2.1 hD2 hS2 p0 6 pk 9 hp0 rfl hpk rfl v1 dX11_image_32 (fun H3 locs3 hP3 hD3 hS3 => ?_)
    rw [ek, ← hη0, ← zup_q] at hP3
    have hW3 : zH η' zkds D vwCl cy L2 Θ2 (zup h2 2 1 ((cdI 1 0 : Nat) : Int)) H3 := zH_put hW2 hD2 h2i zkd_62 (by decide) (by decide) (by
      refine ⟨Or.inr ⟨Int.natCast_nonneg _, by rw [Int.toNat_natCast]; exact hn0⟩, ?_, ?_⟩
      · show (-1 : Int) ≤ _
        omega
      · show _ ≤ (2147483647 : Int)
        have := cdI_b (k := 1) (i := 0) (by decide)
        omega) hp0' (by rw [zE_q rfl]; exact hP3)
    have fr3 : ∀ a j, ¬ (1000 * (1 + 1) ≤ a ∧ a < 1000 * (1 + 2)) → ¬ (a = 2 ∧ j = 1) → (zup h2 2 1 ((cdI 1 0 : Nat) : Int)) a j = h a j := fun a j w1 w2 => by
      rw [zup_ne w2, (hout a (fun i hi h9 => by have := cdI_b (k := 1) hi; omega)).2]
    have g3i : (zup h2 2 1 ((cdI 1 0 : Nat) : Int)) 2 1 = ((1000 * (1 + 1) + 3 : Nat) : Int) := zup_at _ _ _ _
    have g3p : cPb (1000 * (1 + 1)) (zup h2 2 1 ((cdI 1 0 : Nat) : Int)) := fun p hp => by
      obtain ⟨i, c1, c2⟩ := zTi1_p p hp
      have c3 := (hin i.1 i.2).2
      unfold cdI at c3
      rw [c1] at c3
      rw [zup_ne (by omega), c3]
      exact c2
    generalize zup h2 2 1 ((cdI 1 0 : Nat) : Int) = h3 at hW3 fr3 g3i g3p
    have hP3' : cP h3 := hP.fr (fun a j w => fr3 a j (by
      obtain ⟨p, hp, e⟩ := List.any_eq_true.mp w
      have e1 : p.1 = a ∧ p.2.1 = j := by simpa using e
      have := cPL_b p hp
      omega) (by
      obtain ⟨p, hp, e⟩ := List.any_eq_true.mp w
      have e1 : p.1 = a ∧ p.2.1 = j := by simpa using e
      have : ∀ p ∈ cPL, p.1 ≠ 2 := by decide +kernel
      have := this p hp
      omega))
    have hN3 : nmC η' adK L2 Θ2 h3 := by
      refine ⟨hN2, n5, fun q hq => ?_, h21, fun i hi w a a1 a2 => ?_⟩
      · rcases hL2c q hq with h9 | ⟨i, hi, rfl⟩
        · obtain ⟨kk, ekk⟩ := hN.2.2.1 q h9
          exact ⟨kk, by rw [n4 q h9]; exact hold _ _ ekk⟩
        · rw [n2 i hi]
          exact (hin i hi).1
      · by_cases hik : i = 1
        · rw [hik, g3i] at w
          omega
        · rw [(hout a (fun j hj h9 => by have := cdI_b (k := 1) hj; omega)).1]
          exact hN.2.2.2.2 i hi (by rw [← fr3 2 i (by omega) (by omega)]; exact w) a a1 a2
    rw [← n3 1 63 ha] at hl
    refine img_tl1 l S hKW hZ hW3 hnd2 (fun q hq => (hL2A q hq).elim (fun h9 => hLb q h9) (fun h9 => by omega)) hN3 hP3' g3i g3p hA2 hS3 (fun q h8 h9 => hS3.2.1 q h8 (fun h7 => by
      rw [hAe] at h7
      rcases h7 with h7 | h7
      · exact h9 (hLL2 q h7)
      · omega)) ⟨hRc.1, hRc.2⟩ (by omega) (by omega) hl hxk (fun h' H4 locs4 hW4 hT4 hS4 => ?_)
    exact K H4 locs4 ⟨η', L2, Θ2, h3, h', hW4, hnd2, hL2A, hN3.keep (fun k => hT4.2.2.2.2.2.2.2.2.2 _ _ (by omega)), n3 1 63 ha, ⟨fr3, g3i, g3p, (cBb_of hW3 g3p (show Θ2 (1000 * (1 + 1) + 3) = some 30 from hn0) (by decide)).1.2⟩, hT4⟩ hS4
  · have ei : va_rf (zrf η (h 2 1)) = .ref (η.1 (1000 * (1 + 1) + 3)) := by
      rw [him]
      exact z_dr 0 _
    rw [ei]
    refine lv_ifnonnull (tgt := 33) hx hb dX11_image_17 (by decide) ?_
    refine W.widen (k := 39) (n := 1090) (by decide +kernel) (by decide +kernel) ?_
    refine img_tl1 l S hKW hZ hH hnd hLb hN hP him hPk hLA hS (fun q _ _ => rfl) ⟨hRc.1, hRc.2⟩ (by omega) (by omega) hl hxk (fun h' H4 locs4 hW4 hT4 hS4 => ?_)
    exact K H4 locs4 ⟨η, L, Θ, h, h', hW4, hnd, fun q hq => Or.inl hq, hN.keep (fun k => hT4.2.2.2.2.2.2.2.2.2 _ _ (by omega)), rfl, ⟨fun a j _ _ => rfl, him, hPk, (cBb_of hH hPk (cK_im (F := False) (g := h) hH ha hP (show 1 < 3 by decide) him) (by decide)).1.2⟩, hT4⟩ hS4
theorem zTi2_p : ∀ p ∈ cPLb, ∃ i : Fin 39, cdIo.getD i.1 0 = p.1 ∧ zct zkds zTi2 (cdI 2) i.1 p.2.1 = ((1000 * (2 + 1) + p.2.2 : Nat) : Int) := by decide +kernel
set_option maxHeartbeats 8000000 in
set_option maxRecDepth 100000 in
theorem img_bd2 (l : Launch) {D : va_G} {cy : Nat → ClassId} {L : List Nat} {Θ : Nat → Option Nat} {h : Nat → Nat → Int} {p : Program} {e : Env} {R : Room} {s : State} {m : MethodId} {args : Array Value} {below : List Frame} {meth : Method} {c : Code} {Q : State → Prop} {w0 : Cond} {ls : Array Slot} {A : Nat → Prop} {base : Nat} {tb adK adV : Nat → Nat} {fv : Option Nat} {x : Int32} (S : CallFix p m c cX11_image 2 s args (w0 :: zTW) RX11) (hKW : KW D cy s) (hZ : zS0 base tb adK adV fv s)
    (hH : zH η zkds D vwCl cy L Θ h s.heap) (hnd : L.Nodup) (hLb : ∀ q ∈ L, base ≤ q) (hbs : base ≤ s.heap.size) (hN : nmC η adK L Θ h) (hP : cP h) (hI : h 2 2 = -1 ∨ (h 2 2 = ((1000 * (2 + 1) + 3 : Nat) : Int) ∧ cPb (1000 * (2 + 1)) h)) (hAe : A = fun q => q ∈ L ∨ s.heap.size ≤ q) (hRc : 39 ≤ R.cells ∧ 1090 ≤ R.slots) (hfr : 4 ≤ R.frames) (hlo : 100 ≤ R.locals) (hl : lv_has ls 2 [(0, .ref (η.1 1)), (1, .int x)]) (hxk : x.toInt = ((2 : Nat) : Int))
    (K : ∀ (H1 : Heap) (locs1 : List Loc), imgO 2 η adK D cy L h s.heap.size H1 → va_S A s.heap H1 locs1 → W p l e R s m args below meth c H1 locs1 39 1090 Q (F0 m 46 ls [])) : W p l e R s m args below meth c s.heap [] 0 0 Q (F0 m 11 ls []) := by
  obtain ⟨hx, hb, hml, hown, hts⟩ := id S
  have hKa : va_K D vwCl (tyW cy) s := hKW.1
  have hLA : ∀ q ∈ L, A q := fun q hq => by rw [hAe]; exact Or.inl hq
  have hA : ∀ q : Nat, s.heap.size ≤ q → A q := fun q hq => by rw [hAe]; exact Or.inr hq
  have hS : va_S A s.heap s.heap [] := va_S.rf
  have ha := hN.2.2.2.1
  obtain ⟨k2, k3, -⟩ := cK_0 hH ha hP
  have e11 : h 1 1 = ((2 : Nat) : Int) := hP.p (by decide)
  have et : (zty (0, 11, 7, [(30, 0, 2147483647), (64, 0, 2147483647), (36, 0, 2147483647), (48, 0, 2147483647), (49, 0, 2147483647), (53, 0, 2147483647), (60, 0, 2147483647)]) 1).1 = 62 + 2 := rfl
  refine lv_aload_n hx hb dX11_image_11 rfl (lv_at hl 0 rfl) ?_
  refine hg_get hx hb hts hown hKa (zFok_mono (fun w hw => List.mem_cons_of_mem _ hw) zf_RX11_16) ha zkd_63 ⟨rfl, rfl⟩ (by decide) hH dX11_image_12 ?_
  rw [et, e11, z_dr]
  refine lv_iload_n hx hb dX11_image_15 rfl (lv_at hl 1 rfl) ?_
  refine hg_img hx hb hKa k2 hH hxk (by decide) dX11_image_16 ?_
  rcases hI with him | ⟨him, hPk⟩
  · have ei : va_rf (zrf η (h 2 2)) = .null := by
      rw [him]
      exact z_dm1 (η := η) 0
    rw [ei]
    refine lv_ifnonnullN hx hb dX11_image_17 ?_
    refine lv_aload_n hx hb dX11_image_20 rfl (lv_at hl 0 rfl) ?_
    refine hg_get hx hb hts hown hKa (zFok_mono (fun w hw => List.mem_cons_of_mem _ hw) zf_RX11_16) ha zkd_63 ⟨rfl, rfl⟩ (by decide) hH dX11_image_21 ?_
    rw [et, e11, z_dr]
    refine lv_iload_n hx hb dX11_image_24 rfl (lv_at hl 1 rfl) ?_
    have hD0 : va_D A ([] ++ va_pl L (zF η zkds cy Θ h)) := z_D hnd hLA
    refine va_new (ci := 9) (fs := [.null, .null, .null, .null, .null, .int 0, .int 0]) (C := RX9) (T := TX9) (N := 7) hx hb hts (fun w hw => List.mem_cons_of_mem _ (zx_9 w hw)) tyX9 tyX9_ok hown (hts _ (List.mem_cons_of_mem _ zl_t7.1)) (hts _ (List.mem_cons_of_mem _ zl_t7.2.1)) (hts _ (List.mem_cons_of_mem _ zl_t7.2.2.1)) hKa hH.1 hD0 hS hA rfl (by decide +kernel) (by omega) (by omega) dX11_image_25 (fun q3 H1 hP1 hD1 hS1 => ?_)
    have hq3 : q3 ∉ L := va_pl_fresh2 hD1
    have hi3 : (([] ++ va_pl L (zF η zkds cy Θ h)) ++ [(q3, (.inr (9, [.null, .null, .null, .null, .null, .int 0, .int 0]) : va_E))])[([] ++ va_pl L (zF η zkds cy Θ h)).length]? = some (q3, .inr (9, [.null, .null, .null, .null, .null, .int 0, .int 0])) := by rw [List.getElem?_append_right (Nat.le_refl _), Nat.sub_self]; rfl
    have hA3 : s.heap.size ≤ q3 := by
      have h9 : A q3 := hD1.2 _ _ hi3
      rw [hAe] at h9
      exact h9.resolve_left hq3
    have hH1 : zH η zkds D vwCl cy L Θ h H1 := ⟨fun k q hk => hP1 k q (by rw [List.getElem?_append_left (List.getElem?_eq_some_iff.mp hk).1]; exact hk), hH.2⟩
    have hPc : va_P D vwCl [(q3, .inr (9, [.null, .null, .null, .null, .null, .int 0, .int 0]))] H1 := fun k q hk => by
      cases k with
      | zero =>
        have e9 : q = (q3, .inr (9, [.null, .null, .null, .null, .null, .int 0, .int 0])) := (Option.some.inj hk).symm
        rw [e9]
        exact hP1 _ _ hi3
      | succ k => simp at hk
    have hDc : va_D A [(q3, (.inr (9, [.null, .null, .null, .null, .null, .int 0, .int 0]) : va_E))] := by
      refine ⟨fun i j x y hx hy _ => ?_, fun k q hk => ?_⟩
      · have := (List.getElem?_eq_some_iff.mp hx).1
        have := (List.getElem?_eq_some_iff.mp hy).1
        simp only [List.length_cons, List.length_nil] at *
        omega
      · cases k with
        | zero =>
          have e9 : q = (q3, .inr (9, [.null, .null, .null, .null, .null, .int 0, .int 0])) := (Option.some.inj hk).symm
          rw [e9]
          exact hA q3 hA3
        | succ k => simp at hk
    have hFc : ∀ q, va_A [(q3, (.inr (9, [.null, .null, .null, .null, .null, .int 0, .int 0]) : va_E))] H1.size q → A q := fun q hq => by
      rcases z_vaA1 hq with h9 | h9
      · rw [h9]; exact hA q3 hA3
      · exact hA q (Nat.le_trans hS1.1 h9)
    refine W.widen (k := 1) (n := 7) (by decide +kernel) (by decide +kernel) ?_
    refine lv_dup hx hb dX11_image_28 rfl ?_
    refine va_callv (va_runIN (As := []) (rest := [.ref q3, .int x, .ref (η.1 2)]) S (c_X9_init l D cy q3 H1.size) ⟨va_cnB 0 hts (z_gdin zin_X9_init) rfl rfl rfl hKW.2.1.1 (hts _ (List.mem_cons_of_mem _ zl_t7.2.2.1)) (by decide +kernel) ⟨Nat.le_trans (Nat.le_of_ble_eq_true rfl) hfr, Nat.le_trans (Nat.le_of_ble_eq_true rfl) hlo⟩, rfl, hts _ (List.mem_cons_of_mem _ zl_t7.2.2.2)⟩ ⟨pwB, fun U hU hW => ⟨rfl, PW.of hU hW hKW hPc hDc⟩⟩ rfl rfl hl.1 rfl (lv_room (Nat.le_of_ble_eq_true rfl)) dX11_image_29 ⟨by omega, by omega⟩) hS1 (fun q _ h9 => hFc q h9) hFc (fun u t H2 locs2 ht hvm _ hB hz2 hk2 hS2 => ?_)
    obtain ⟨q_1, q_7, q_8, q_33, q_48, q_6, q_9, q_21, q_14, q_15, q_16, q_17, q_18, q_19, q_20, q_26, q_27, q_28, q_29, q_30, q_31, q_32, q_34, q_41, q_39, q_40, q_46, q_47, q_49, q_58, q_54, q_55, q_56, q_57, q_63, q_64, q_65, q_66, hP2, hD2⟩ := hB
    rw [ht] at hP2
    refine W.widen (k := 39) (n := 1090) (by decide +kernel) (by decide +kernel) ?_
    generalize hAD : (fun i => ([q3, q_1, q_6, q_7, q_8, q_9, q_14, q_15, q_16, q_17, q_18, q_19, q_20, q_21, q_26, q_27, q_28, q_29, q_30, q_31, q_32, q_33, q_34, q_39, q_40, q_41, q_46, q_47, q_48, q_49, q_54, q_55, q_56, q_57, q_58, q_63, q_64, q_65, q_66] : List Nat).getD i 0) = AD
    have hat := zi2_at hP2
    rw [hAD] at hat
    have hj : zinj 39 AD := by rw [← hAD]; exact zAD_inj hD2
    have hAA : ∀ i, i < 39 → AD i = q3 ∨ H1.size ≤ AD i := fun i hi => by rw [← hAD]; exact z_vaA1 (zAD_A hD2 hi)
    have hA0 : AD 0 = q3 := by rw [← hAD]; rfl
    clear hP2 hD2 hAD
    have hAb : ∀ i, i < 39 → s.heap.size ≤ AD i := fun i hi => by
      rcases hAA i hi with h9 | h9
      · omega
      · have := hS1.1
        omega
    have hAL : ∀ i, i < 39 → AD i ∉ L := fun i hi h9 => by
      rcases hAA i hi with h8 | h8
      · rw [h8] at h9
        exact hq3 h9
      · have := zH_lt hH1 h9
        omega
    have hH2 : zH η zkds D vwCl cy L Θ h H2 := zH_kept hH1 (fun q hq => hk2 q (zH_lt hH1 hq) (fun h9 => by
      rcases z_vaA1 h9 with h8 | h8
      · rw [h8] at hq
        exact hq3 hq
      · have := zH_lt hH1 hq
        omega))
    have hno : ∀ i, i < 39 → Θ (cdI 2 i) = none := fun i hi => hN.2.2.2.2 2 (by decide) him _ (by have := cdI_b (k := 2) hi; omega) (by have := cdI_b (k := 2) hi; omega)
    have hne : ∀ q kk, Θ q = some kk → ∀ i, i < 39 → cdI 2 i ≠ q := fun q kk hq i hi h9 => by
      have := hno i hi
      rw [h9, hq] at this
      cases this
    obtain ⟨η', hη'⟩ : ∃ η' : zRn, η' = zηx 39 (cdI 2) AD η := ⟨_, rfl⟩
    have n1 : ∀ i, i < 39 → η'.1 (cdI 2 i) = AD i := fun i hi => by rw [hη']; exact zηx1 (cdI_j 2) hi
    have n2 : ∀ i, i < 39 → η'.2 (AD i) = cdI 2 i := fun i hi => by rw [hη']; exact zηx2 hj hi
    have n3 : ∀ q kk, Θ q = some kk → η'.1 q = η.1 q := fun q kk hq => by rw [hη']; exact zηx1n (hne q kk hq)
    have n4 : ∀ q ∈ L, η'.2 q = η.2 q := fun q hq => by rw [hη']; exact zηx2n (fun i hi h9 => hAL i hi (by rw [h9]; exact hq))
    have n5 : ∀ i, i < 15 → η'.1 (1000000 + i) = adK i := fun i hi => by
      rw [hη', zηx1n (fun j hj h9 => by have := cdI_b (k := 2) hj; omega)]
      exact hN.2.1 i hi
    clear hη'
    have hH2' : zH η' zkds D vwCl cy L Θ h H2 := zH_ren zkds_q hH2 hN.2.2.1 n3 n4
    have hW2 := zH_new (T := zTi2) (cd := cdI 2) (AD := AD) n1 n2 hH2' zTi2_ok zTi2_ox (cdI_j 2) (fun i hi => by have := cdI_b (k := 2) hi; omega) hno hAL hat
    have hnd2 : (L ++ (List.range zTi2.length).map AD).Nodup := z_ndnew hnd hj hAL
    have hN2 : zNm (zTh zTi2 (cdI 2) Θ) := zNm_app hN.1 zTi_ns.2.2.1 (cdI_j 2) (fun i hi => by have := cdI_b (k := 2) hi; omega)
    have hold : ∀ q kk, Θ q = some kk → zTh zTi2 (cdI 2) Θ q = some kk := fun q kk hq => by
      rw [zTh_ne (T := zTi2) (hne q kk hq)]
      exact hq
    have hout : ∀ q, (∀ i, i < 39 → cdI 2 i ≠ q) → zTh zTi2 (cdI 2) Θ q = Θ q ∧ zhh zkds zTi2 (cdI 2) h q = h q := fun q hq => ⟨zTh_ne (T := zTi2) hq, zhh_ne (T := zTi2) hq⟩
    have hin : ∀ i, i < 39 → (∃ kk, zTh zTi2 (cdI 2) Θ (cdI 2 i) = some kk) ∧ zhh zkds zTi2 (cdI 2) h (cdI 2 i) = zct zkds zTi2 (cdI 2) i := fun i hi => ⟨⟨_, zTh_at (T := zTi2) (cdI_j 2) hi⟩, zhh_at (T := zTi2) (cdI_j 2) hi⟩
    have hn0 : zTh zTi2 (cdI 2) Θ (cdI 2 0) = some 31 := zTh_at (T := zTi2) (i := 0) (cdI_j 2) (by decide)
    have hη0 : η'.1 (cdI 2 0) = q3 := (n1 0 (by decide)).trans hA0
    generalize zTh zTi2 (cdI 2) Θ = Θ2 at hW2 hN2 hold hn0 hout hin
    generalize zhh zkds zTi2 (cdI 2) h = h2 at hW2 hout hin
    obtain ⟨L2, hL2⟩ : ∃ L2, L2 = L ++ (List.range zTi2.length).map AD := ⟨_, rfl⟩
    rw [← hL2] at hW2 hnd2
    have hL2c : ∀ q ∈ L2, q ∈ L ∨ ∃ i, i < 39 ∧ AD i = q := fun q hq => by
      rw [hL2] at hq
      rcases List.mem_append.mp hq with h9 | h9
      · exact Or.inl h9
      · obtain ⟨i, hi, rfl⟩ := List.mem_map.mp h9
        exact Or.inr ⟨i, List.mem_range.mp hi, rfl⟩
    have hLL2 : ∀ q ∈ L, q ∈ L2 := fun q hq => by rw [hL2]; exact List.mem_append_left _ hq
    have hL2A : ∀ q ∈ L2, q ∈ L ∨ s.heap.size ≤ q := fun q hq => by
      rcases hL2c q hq with h9 | ⟨i, hi, rfl⟩
      · exact Or.inl h9
      · exact Or.inr (hAb i hi)
    have hA2 : ∀ q ∈ L2, A q := fun q hq => by rw [hAe]; exact hL2A q hq
    have h2i := hold 2 62 k2
    have h21 := hold 1 63 ha
    obtain ⟨p0, hp0⟩ := zH_get hW2 h2i zkd_62 (by decide)
    obtain ⟨pk, hpk⟩ := zH_get hW2 hn0 zkd_31 (by decide)
    have hD2 : va_D A ([] ++ va_pl L2 (zF η' zkds cy Θ2 h2)) := z_D hnd2 hA2
    have hp0' := hp0
    rw [zE_q rfl] at hp0
    rw [zE_o rfl, hη0] at hpk
    obtain ⟨v1, v2⟩ := z_vin (i := x) (n := 3) (by omega) (by omega)
    have ek : x.toNatClampNeg = 2 := by rw [v2]; omega
    rw [← n3 2 62 k2]
    refine va_astq hx hb hKa hW2.1 hD2 hS2 p0 6 pk 9 hp0 rfl hpk rfl v1 dX11_image_32 (fun H3 locs3 hP3 hD3 hS3 => ?_)
    rw [ek, ← hη0, ← zup_q] at hP3
    have hW3 : zH η' zkds D vwCl cy L2 Θ2 (zup h2 2 2 ((cdI 2 0 : Nat) : Int)) H3 := zH_put hW2 hD2 h2i zkd_62 (by decide) (by decide) (by
      refine ⟨Or.inr ⟨Int.natCast_nonneg _, by rw [Int.toNat_natCast]; exact hn0⟩, ?_, ?_⟩
      · show (-1 : Int) ≤ _
        omega
      · show _ ≤ (2147483647 : Int)
        have := cdI_b (k := 2) (i := 0) (by decide)
        omega) hp0' (by rw [zE_q rfl]; exact hP3)
    have fr3 : ∀ a j, ¬ (1000 * (2 + 1) ≤ a ∧ a < 1000 * (2 + 2)) → ¬ (a = 2 ∧ j = 2) → (zup h2 2 2 ((cdI 2 0 : Nat) : Int)) a j = h a j := fun a j w1 w2 => by
      rw [zup_ne w2, (hout a (fun i hi h9 => by have := cdI_b (k := 2) hi; omega)).2]
    have g3i : (zup h2 2 2 ((cdI 2 0 : Nat) : Int)) 2 2 = ((1000 * (2 + 1) + 3 : Nat) : Int) := zup_at _ _ _ _
    have g3p : cPb (1000 * (2 + 1)) (zup h2 2 2 ((cdI 2 0 : Nat) : Int)) := fun p hp => by
      obtain ⟨i, c1, c2⟩ := zTi2_p p hp
      have c3 := (hin i.1 i.2).2
      unfold cdI at c3
      rw [c1] at c3
      rw [zup_ne (by omega), c3]
      exact c2
    generalize zup h2 2 2 ((cdI 2 0 : Nat) : Int) = h3 at hW3 fr3 g3i g3p
    have hP3' : cP h3 := hP.fr (fun a j w => fr3 a j (by
      obtain ⟨p, hp, e⟩ := List.any_eq_true.mp w
      have e1 : p.1 = a ∧ p.2.1 = j := by simpa using e
      have := cPL_b p hp
      omega) (by
      obtain ⟨p, hp, e⟩ := List.any_eq_true.mp w
      have e1 : p.1 = a ∧ p.2.1 = j := by simpa using e
      have : ∀ p ∈ cPL, p.1 ≠ 2 := by decide +kernel
      have := this p hp
      omega))
    have hN3 : nmC η' adK L2 Θ2 h3 := by
      refine ⟨hN2, n5, fun q hq => ?_, h21, fun i hi w a a1 a2 => ?_⟩
      · rcases hL2c q hq with h9 | ⟨i, hi, rfl⟩
        · obtain ⟨kk, ekk⟩ := hN.2.2.1 q h9
          exact ⟨kk, by rw [n4 q h9]; exact hold _ _ ekk⟩
        · rw [n2 i hi]
          exact (hin i hi).1
      · by_cases hik : i = 2
        · rw [hik, g3i] at w
          omega
        · rw [(hout a (fun j hj h9 => by have := cdI_b (k := 2) hj; omega)).1]
          exact hN.2.2.2.2 i hi (by rw [← fr3 2 i (by omega) (by omega)]; exact w) a a1 a2
    rw [← n3 1 63 ha] at hl
    refine img_tl2 l S hKW hZ hW3 hnd2 (fun q hq => (hL2A q hq).elim (fun h9 => hLb q h9) (fun h9 => by omega)) hN3 hP3' g3i g3p hA2 hS3 (fun q h8 h9 => hS3.2.1 q h8 (fun h7 => by
      rw [hAe] at h7
      rcases h7 with h7 | h7
      · exact h9 (hLL2 q h7)
      · omega)) ⟨hRc.1, hRc.2⟩ (by omega) (by omega) hl hxk (fun h' H4 locs4 hW4 hT4 hS4 => ?_)
    exact K H4 locs4 ⟨η', L2, Θ2, h3, h', hW4, hnd2, hL2A, hN3.keep (fun k => hT4.2.2.2.2.2.2.2.2.2 _ _ (by omega)), n3 1 63 ha, ⟨fr3, g3i, g3p, (cBb_of hW3 g3p (show Θ2 (1000 * (2 + 1) + 3) = some 31 from hn0) (by decide)).1.2⟩, hT4⟩ hS4
  · have ei : va_rf (zrf η (h 2 2)) = .ref (η.1 (1000 * (2 + 1) + 3)) := by
      rw [him]
      exact z_dr 0 _
    rw [ei]
    refine lv_ifnonnull (tgt := 33) hx hb dX11_image_17 (by decide) ?_
    refine W.widen (k := 39) (n := 1090) (by decide +kernel) (by decide +kernel) ?_
    refine img_tl2 l S hKW hZ hH hnd hLb hN hP him hPk hLA hS (fun q _ _ => rfl) ⟨hRc.1, hRc.2⟩ (by omega) (by omega) hl hxk (fun h' H4 locs4 hW4 hT4 hS4 => ?_)
    exact K H4 locs4 ⟨η, L, Θ, h, h', hW4, hnd, fun q hq => Or.inl hq, hN.keep (fun k => hT4.2.2.2.2.2.2.2.2.2 _ _ (by omega)), rfl, ⟨fun a j _ _ => rfl, him, hPk, (cBb_of hH hPk (cK_im (F := False) (g := h) hH ha hP (show 2 < 3 by decide) him) (by decide)).1.2⟩, hT4⟩ hS4
/-- what image() leaves -/
def imgB (η : zRn) (adK : Nat → Nat) (D : va_G) (cy : Nat → ClassId) (L : List Nat) (Θ : Nat → Option Nat) (h : yH) (x : Int) (sz : Nat) (v : Int32) (H : Heap) : Prop := (¬ (0 ≤ x ∧ x < 3) ∧ v = 0 ∧ zH η zkds D vwCl cy L Θ h H) ∨ ∃ k : Nat, k < 3 ∧ x = (k : Int) ∧ v = 1 ∧ imgO k η adK D cy L h sz H
set_option maxHeartbeats 4000000 in
set_option maxRecDepth 100000 in
theorem c_img (l : Launch) {D : va_G} {cy : Nat → ClassId} {L : List Nat} {Θ : Nat → Option Nat} {h : Nat → Nat → Int} {base : Nat} {tb adK adV : Nat → Nat} {fv : Option Nat} {sz : Nat} {x : Int32} (hnd : L.Nodup) (hLb : ∀ q ∈ L, base ≤ q) (hbs : base ≤ sz) (hN : nmC η adK L Θ h) (hP : cP h) (hI : ∀ k, k < 3 → h 2 k = -1 ∨ (h 2 k = ((1000 * (k + 1) + 3 : Nat) : Int) ∧ cPb (1000 * (k + 1)) h)) :
    Met l yX11_image (Cond.code yX11_image cX11_image 2 (some .boolean) :: zTW) ({ frames := 4, cells := 39, slots := 1090, locals := 100 } : Room) (va_Pc [.ref (η.1 1), .int x] (fun U => U.heap.size = sz ∧ zH η zkds D vwCl cy L Θ h U.heap ∧ KW D cy U ∧ zS0 base tb adK adV fv U)) (va_Qi (fun v (u : Int32) => v = u) (fun u t => imgB η adK D cy L Θ h x.toInt sz u t.heap) (fun q => q ∈ L ∨ sz ≤ q)) 39 1090 (fun q => q ∈ L ∨ sz ≤ q) := by
  refine Met.ofW (cc := cX11_image) (maxL := 2) (ret := (some .boolean)) (by decide) rfl ?_
  intro p e s m args below meth c s₁ B hml hv
  obtain ⟨rfl, hsz, hH, hKW, hZ⟩ := hv
  have hx := B.exec
  have hb := B.bytes
  have hr := B.returns
  have hts := atoms_spec (ws := Cond.code yX11_image cX11_image 2 (some .boolean) :: zTW) B.pre
  have hown : s.vm.findClass RX11 = some m.cls := findClass_of_methodNamed B.named
  have hlocks := B.notSynchronized
  subst hsz
  have hl := lv_entry ([.ref (η.1 1), .int x]) (n := 2) (Nat.le_of_ble_eq_true rfl)
  rw [lg_entry_eq]
  generalize (lg_sl ([.ref (η.1 1), .int x]) ++ List.replicate (2 - (lg_sl ([.ref (η.1 1), .int x])).length) Slot.unset).toArray = ls at hl ⊢
  have hl : lv_has ls 2 [(0, .ref (η.1 1)), (1, .int x)] := hl
  have hS0 : va_S (fun q => q ∈ L ∨ s.heap.size ≤ q) s.heap s.heap [] := va_S.rf
  have z0 : (0 : Int32).toInt = 0 := rfl
  have z3 : (3 : Int32).toInt = 3 := rfl
  refine lv_iload_n hx hb dX11_image_0 rfl (lv_at hl 1 rfl) ?_
  refine lv_if_lt (tgt := 9) hx hb dX11_image_1 (by decide) (fun c_1 => ?_) (fun c_1 => ?_)
  · have h1 := Int32.lt_iff_toInt_lt.mp c_1
    rw [z0] at h1
    refine lv_iconst (v := 0) hx hb dX11_image_9 (by decide +kernel) ?_
    refine W.widen (k := 39) (n := 1090) (by decide +kernel) (by decide +kernel) ?_
    exact W.zret (v := 0) hx hb hr (rfl) (fun t ht hW => ⟨⟨0, 0, rfl, rfl, by show imgB η adK D cy L Θ h x.toInt s.heap.size 0 t.heap; rw [ht]; exact Or.inl ⟨by omega, rfl, hH⟩⟩, hS0.F ht⟩) hS0.2.2 dX11_image_10
  · have h1 : ¬ x.toInt < 0 := fun h9 => c_1 (Int32.lt_iff_toInt_lt.mpr (by rw [z0]; exact h9))
    refine lv_iload_n hx hb dX11_image_4 rfl (lv_at hl 1 rfl) ?_
    refine lv_iconst (v := 3) hx hb dX11_image_5 (by decide +kernel) ?_
    refine lv_icmp_lt (tgt := 11) hx hb dX11_image_6 (by decide) (fun c_2 => ?_) (fun c_2 => ?_)
    · have h2 := Int32.lt_iff_toInt_lt.mp c_2
      rw [z3] at h2
      have S : CallFix p m c cX11_image 2 s _ (Cond.code yX11_image cX11_image 2 (some .boolean) :: zTW) RX11 := ⟨hx, hb, hml, hown, hts⟩
      rcases (show x.toInt = ((0 : Nat) : Int) ∨ x.toInt = ((1 : Nat) : Int) ∨ x.toInt = ((2 : Nat) : Int) by omega) with hk | hk | hk
      · refine img_bd0 l S hKW hZ hH hnd hLb hbs hN hP (hI 0 (by decide)) rfl ⟨by decide, by decide⟩ (by decide) (by decide) hl hk (fun H1 locs1 hB hS1 => ?_)
        refine lv_iconst (v := 1) hx hb dX11_image_46 (by decide +kernel) ?_
        exact W.zret (v := 1) hx hb hr (rfl) (fun t ht hW => ⟨⟨1, 1, rfl, rfl, by show imgB η adK D cy L Θ h x.toInt s.heap.size 1 t.heap; rw [ht]; exact Or.inr ⟨0, by decide, hk, rfl, hB⟩⟩, hS1.F ht⟩) hS1.2.2 dX11_image_47
      · refine img_bd1 l S hKW hZ hH hnd hLb hbs hN hP (hI 1 (by decide)) rfl ⟨by decide, by decide⟩ (by decide) (by decide) hl hk (fun H1 locs1 hB hS1 => ?_)
        refine lv_iconst (v := 1) hx hb dX11_image_46 (by decide +kernel) ?_
        exact W.zret (v := 1) hx hb hr (rfl) (fun t ht hW => ⟨⟨1, 1, rfl, rfl, by show imgB η adK D cy L Θ h x.toInt s.heap.size 1 t.heap; rw [ht]; exact Or.inr ⟨1, by decide, hk, rfl, hB⟩⟩, hS1.F ht⟩) hS1.2.2 dX11_image_47
      · refine img_bd2 l S hKW hZ hH hnd hLb hbs hN hP (hI 2 (by decide)) rfl ⟨by decide, by decide⟩ (by decide) (by decide) hl hk (fun H1 locs1 hB hS1 => ?_)
        refine lv_iconst (v := 1) hx hb dX11_image_46 (by decide +kernel) ?_
        exact W.zret (v := 1) hx hb hr (rfl) (fun t ht hW => ⟨⟨1, 1, rfl, rfl, by show imgB η adK D cy L Θ h x.toInt s.heap.size 1 t.heap; rw [ht]; exact Or.inr ⟨2, by decide, hk, rfl, hB⟩⟩, hS1.F ht⟩) hS1.2.2 dX11_image_47
    · have h2 : ¬ x.toInt < 3 := fun h9 => c_2 (Int32.lt_iff_toInt_lt.mpr (by rw [z3]; exact h9))
      refine lv_iconst (v := 0) hx hb dX11_image_9 (by decide +kernel) ?_
      refine W.widen (k := 39) (n := 1090) (by decide +kernel) (by decide +kernel) ?_
      exact W.zret (v := 0) hx hb hr (rfl) (fun t ht hW => ⟨⟨0, 0, rfl, rfl, by show imgB η adK D cy L Θ h x.toInt s.heap.size 0 t.heap; rw [ht]; exact Or.inl ⟨by omega, rfl, hH⟩⟩, hS0.F ht⟩) hS0.2.2 dX11_image_10
end
section
variable {η : zRn}
theorem dX11_again_0 : decode cX11_again 0 = .ok (.iload_n 1, 1) := by decide +kernel
theorem dX11_again_1 : decode cX11_again 1 = .ok (.ifCond .lt 17, 3) := by decide +kernel
theorem dX11_again_4 : decode cX11_again 4 = .ok (.iload_n 1, 1) := by decide +kernel
theorem dX11_again_5 : decode cX11_again 5 = .ok (.iconst 3, 1) := by decide +kernel
theorem dX11_again_6 : decode cX11_again 6 = .ok (.if_icmp .ge 12, 3) := by decide +kernel
theorem dX11_again_9 : decode cX11_again 9 = .ok (.aload_n 0, 1) := by decide +kernel
theorem dX11_again_10 : decode cX11_again 10 = .ok (.getfield 16, 3) := by decide +kernel
theorem dX11_again_13 : decode cX11_again 13 = .ok (.iload_n 1, 1) := by decide +kernel
theorem dX11_again_14 : decode cX11_again 14 = .ok (.aaload, 1) := by decide +kernel
theorem dX11_again_15 : decode cX11_again 15 = .ok (.ifnonnull 5, 3) := by decide +kernel
theorem dX11_again_18 : decode cX11_again 18 = .ok (.iconst 0, 1) := by decide +kernel
theorem dX11_again_19 : decode cX11_again 19 = .ok (.ireturn, 1) := by decide +kernel
theorem dX11_again_20 : decode cX11_again 20 = .ok (.aload_n 0, 1) := by decide +kernel
theorem dX11_again_21 : decode cX11_again 21 = .ok (.getfield 10, 3) := by decide +kernel
theorem dX11_again_24 : decode cX11_again 24 = .ok (.aload_n 0, 1) := by decide +kernel
theorem dX11_again_25 : decode cX11_again 25 = .ok (.getfield 16, 3) := by decide +kernel
theorem dX11_again_28 : decode cX11_again 28 = .ok (.iload_n 1, 1) := by decide +kernel
theorem dX11_again_29 : decode cX11_again 29 = .ok (.aaload, 1) := by decide +kernel
theorem dX11_again_30 : decode cX11_again 30 = .ok (.invokevirtual 382, 3) := by decide +kernel
theorem dX11_again_33 : decode cX11_again 33 = .ok (.iconst 1, 1) := by decide +kernel
theorem dX11_again_34 : decode cX11_again 34 = .ok (.ireturn, 1) := by decide +kernel
/-- what again() leaves -/
def agB (η : zRn) (D : va_G) (cy : Nat → ClassId) (L : List Nat) (Θ : Nat → Option Nat) (h : yH) (x : Int) (v : Int32) (H : Heap) : Prop := ((¬ (0 ≤ x ∧ x < 3) ∨ h 2 x.toNat = -1) ∧ v = 0 ∧ zH η zkds D vwCl cy L Θ h H) ∨ ∃ k : Nat, k < 3 ∧ x = (k : Int) ∧ v = 1 ∧ h 2 k ≠ -1 ∧ ∃ h2, zH η zkds D vwCl cy L Θ h2 H ∧ tcR 0 (1000 * (k + 1)) h h2
set_option maxHeartbeats 4000000 in
set_option maxRecDepth 10000 in
theorem ag_bd0 (l : Launch) {D : va_G} {cy : Nat → ClassId} {L : List Nat} {Θ : Nat → Option Nat} {h : Nat → Nat → Int} {p : Program} {e : Env} {R : Room} {s : State} {m : MethodId} {args : Array Value} {below : List Frame} {meth : Method} {c : Code} {Q : State → Prop} {w0 : Cond} {ls : Array Slot} {A : Nat → Prop} {base : Nat} {tb adK adV : Nat → Nat} {fv : Option Nat} {x : Int32} (S : CallFix p m c cX11_again 2 s args (w0 :: zTW) RX11) (hKW : KW D cy s) (hZ : zS0 base tb adK adV fv s)
    (hH : zH η zkds D vwCl cy L Θ h s.heap) (hnd : L.Nodup) (hLb : ∀ q ∈ L, base ≤ q) (hN : nmC η adK L Θ h) (hP : cP h) (him : h 2 0 = ((1000 * (0 + 1) + 3 : Nat) : Int)) (hPk : cPb (1000 * (0 + 1)) h) (hAe : A = fun q => q ∈ L) (hfr : 3 ≤ R.frames) (hlo : 69 ≤ R.locals) (hl : lv_has ls 2 [(0, .ref (η.1 1)), (1, .int x)]) (hxk : x.toInt = ((0 : Nat) : Int))
    (K : ∀ (h' : Nat → Nat → Int) (H1 : Heap) (locs1 : List Loc), zH η zkds D vwCl cy L Θ h' H1 → tcR 0 (1000 * (0 + 1)) h h' → va_S A s.heap H1 locs1 → W p l e R s m args below meth c H1 locs1 0 0 Q (F0 m 33 ls [])) : W p l e R s m args below meth c s.heap [] 0 0 Q (F0 m 20 ls []) := by
  obtain ⟨hx, hb, hml, hown, hts⟩ := id S
  have hKa : va_K D vwCl (tyW cy) s := hKW.1
  have hLA : ∀ q ∈ L, A q := fun q hq => by rw [hAe]; exact hq
  have hS : va_S A s.heap s.heap [] := va_S.rf
  have ha := hN.2.2.2.1
  obtain ⟨k2, k3, -⟩ := cK_0 hH ha hP
  have kI := cK_im (F := False) (g := h) hH ha hP (show 0 < 3 by decide) him
  have e11 : h 1 1 = ((2 : Nat) : Int) := hP.p (by decide)
  have e10 : h 1 0 = ((3 : Nat) : Int) := hP.p (by decide)
  refine lv_aload_n hx hb dX11_again_20 rfl (lv_at hl 0 rfl) ?_
  refine hg_get hx hb hts hown hKa (zFok_mono (fun w hw => List.mem_cons_of_mem _ hw) zf_RX11_10) ha zkd_63 ⟨rfl, rfl⟩ (by decide) hH dX11_again_21 ?_
  rw [show (zty (0, 11, 7, [(30, 0, 2147483647), (64, 0, 2147483647), (36, 0, 2147483647), (48, 0, 2147483647), (49, 0, 2147483647), (53, 0, 2147483647), (60, 0, 2147483647)]) 0).1 = 28 + 2 from rfl, e10, z_dr]
  refine lv_aload_n hx hb dX11_again_24 rfl (lv_at hl 0 rfl) ?_
  refine hg_get hx hb hts hown hKa (zFok_mono (fun w hw => List.mem_cons_of_mem _ hw) zf_RX11_16) ha zkd_63 ⟨rfl, rfl⟩ (by decide) hH dX11_again_25 ?_
  rw [show (zty (0, 11, 7, [(30, 0, 2147483647), (64, 0, 2147483647), (36, 0, 2147483647), (48, 0, 2147483647), (49, 0, 2147483647), (53, 0, 2147483647), (60, 0, 2147483647)]) 1).1 = 62 + 2 from rfl, e11, z_dr]
  refine lv_iload_n hx hb dX11_again_28 rfl (lv_at hl 1 rfl) ?_
  refine hg_img hx hb hKa k2 hH hxk (by decide) dX11_again_29 ?_
  have ei : va_rf (zrf η (h 2 0)) = .ref (η.1 (1000 * (0 + 1) + 3)) := by
    rw [him]
    exact z_dr 0 _
  rw [ei]
  have hKP : zKP η D cy L Θ s := ⟨hKW, zST_of hN.2.1 hZ hLb hN.1⟩
  obtain ⟨v, h2, e1, r⟩ := tcp_a0 (n := 3) (h := h) (by decide) hP.b hPk (cBb_of hH hPk kI (by decide))
  have o1 : yok Θ (100031, ((1000 * (0 + 1) + 3 : Nat) : Int)) := by
    unfold yok
    rw [if_neg (by decide)]
    exact ⟨by simp only; omega, by simp only [Int.toNat_natCast]; exact kI⟩
  have o2 : yok Θ (100030, ((3 : Nat) : Int)) := by
    unfold yok
    rw [if_neg (by decide)]
    exact ⟨by simp only; omega, by simp only [Int.toNat_natCast]; exact k3⟩
  have v1 := (y_ref (η := η) (k := 29) o1 rfl).2.2
  have v2 := (y_ref (η := η) (k := 28) o2 rfl).2.2
  simp only [Int.toNat_natCast] at v1 v2
  refine lw_callY (kds := zkds) (vs := [(100030, ((3 : Nat) : Int)), (100031, ((1000 * (0 + 1) + 3 : Nat) : Int))]) (Qr := fun _ h' => tcR 0 (1000 * (0 + 1)) h h') (rest := []) zkp_ok zTW_good rfl (m_X9_copyFrom_a0 l) hnd S hKP (ycv_of yw_X9_copyFrom 382 dX11_again_30 zl_img rfl (by omega) (show 8 + (3 + 11) + 47 ≤ R.locals by omega) (zk_ex (kk := 28) (ts := [100031]) _ _ rfl (zkK ⟨28, by decide⟩) rfl rfl rfl)) ⟨Nat.zero_le _, Nat.zero_le _⟩ rfl (fun a ha => ?_) ⟨3, v, h2, e1, r⟩ hH hLA hS (fun q _ _ => rfl) hl.1 (by decide) ?_ (fun a h' H1 locs1 hQ oa oH oz oq oS => ?_)
  · rcases List.mem_cons.mp ha with rfl | ha
    · exact o2
    · rcases List.mem_cons.mp ha with rfl | ha
      · exact o1
      · cases ha
  · simp only [List.map_cons, List.map_nil, v1, v2]
    rfl
  · exact K h' H1 locs1 oH hQ oS
set_option maxHeartbeats 4000000 in
set_option maxRecDepth 10000 in
theorem ag_bd1 (l : Launch) {D : va_G} {cy : Nat → ClassId} {L : List Nat} {Θ : Nat → Option Nat} {h : Nat → Nat → Int} {p : Program} {e : Env} {R : Room} {s : State} {m : MethodId} {args : Array Value} {below : List Frame} {meth : Method} {c : Code} {Q : State → Prop} {w0 : Cond} {ls : Array Slot} {A : Nat → Prop} {base : Nat} {tb adK adV : Nat → Nat} {fv : Option Nat} {x : Int32} (S : CallFix p m c cX11_again 2 s args (w0 :: zTW) RX11) (hKW : KW D cy s) (hZ : zS0 base tb adK adV fv s)
    (hH : zH η zkds D vwCl cy L Θ h s.heap) (hnd : L.Nodup) (hLb : ∀ q ∈ L, base ≤ q) (hN : nmC η adK L Θ h) (hP : cP h) (him : h 2 1 = ((1000 * (1 + 1) + 3 : Nat) : Int)) (hPk : cPb (1000 * (1 + 1)) h) (hAe : A = fun q => q ∈ L) (hfr : 3 ≤ R.frames) (hlo : 69 ≤ R.locals) (hl : lv_has ls 2 [(0, .ref (η.1 1)), (1, .int x)]) (hxk : x.toInt = ((1 : Nat) : Int))
    (K : ∀ (h' : Nat → Nat → Int) (H1 : Heap) (locs1 : List Loc), zH η zkds D vwCl cy L Θ h' H1 → tcR 0 (1000 * (1 + 1)) h h' → va_S A s.heap H1 locs1 → W p l e R s m args below meth c H1 locs1 0 0 Q (F0 m 33 ls [])) : W p l e R s m args below meth c s.heap [] 0 0 Q (F0 m 20 ls []) := by
  obtain ⟨hx, hb, hml, hown, hts⟩ := id S
  have hKa : va_K D vwCl (tyW cy) s := hKW.1
  have hLA : ∀ q ∈ L, A q := fun q hq => by rw [hAe]; exact hq
  have hS : va_S A s.heap s.heap [] := va_S.rf
  have ha := hN.2.2.2.1
  obtain ⟨k2, k3, -⟩ := cK_0 hH ha hP
  have kI := cK_im (F := False) (g := h) hH ha hP (show 1 < 3 by decide) him
  have e11 : h 1 1 = ((2 : Nat) : Int) := hP.p (by decide)
  have e10 : h 1 0 = ((3 : Nat) : Int) := hP.p (by decide)
  refine lv_aload_n hx hb dX11_again_20 rfl (lv_at hl 0 rfl) ?_
  refine hg_get hx hb hts hown hKa (zFok_mono (fun w hw => List.mem_cons_of_mem _ hw) zf_RX11_10) ha zkd_63 ⟨rfl, rfl⟩ (by decide) hH dX11_again_21 ?_
  rw [show (zty (0, 11, 7, [(30, 0, 2147483647), (64, 0, 2147483647), (36, 0, 2147483647), (48, 0, 2147483647), (49, 0, 2147483647), (53, 0, 2147483647), (60, 0, 2147483647)]) 0).1 = 28 + 2 from rfl, e10, z_dr]
  refine lv_aload_n hx hb dX11_again_24 rfl (lv_at hl 0 rfl) ?_
  refine hg_get hx hb hts hown hKa (zFok_mono (fun w hw => List.mem_cons_of_mem _ hw) zf_RX11_16) ha zkd_63 ⟨rfl, rfl⟩ (by decide) hH dX11_again_25 ?_
  rw [show (zty (0, 11, 7, [(30, 0, 2147483647), (64, 0, 2147483647), (36, 0, 2147483647), (48, 0, 2147483647), (49, 0, 2147483647), (53, 0, 2147483647), (60, 0, 2147483647)]) 1).1 = 62 + 2 from rfl, e11, z_dr]
  refine lv_iload_n hx hb dX11_again_28 rfl (lv_at hl 1 rfl) ?_
  refine hg_img hx hb hKa k2 hH hxk (by decide) dX11_again_29 ?_
  have ei : va_rf (zrf η (h 2 1)) = .ref (η.1 (1000 * (1 + 1) + 3)) := by
    rw [him]
    exact z_dr 0 _
  rw [ei]
  have hKP : zKP η D cy L Θ s := ⟨hKW, zST_of hN.2.1 hZ hLb hN.1⟩
  obtain ⟨v, h2, e1, r⟩ := tcp_a1 (n := 3) (h := h) (by decide) hP.b hPk (cBb_of hH hPk kI (by decide))
  have o1 : yok Θ (100032, ((1000 * (1 + 1) + 3 : Nat) : Int)) := by
    unfold yok
    rw [if_neg (by decide)]
    exact ⟨by simp only; omega, by simp only [Int.toNat_natCast]; exact kI⟩
  have o2 : yok Θ (100030, ((3 : Nat) : Int)) := by
    unfold yok
    rw [if_neg (by decide)]
    exact ⟨by simp only; omega, by simp only [Int.toNat_natCast]; exact k3⟩
  have v1 := (y_ref (η := η) (k := 30) o1 rfl).2.2
  have v2 := (y_ref (η := η) (k := 28) o2 rfl).2.2
  simp only [Int.toNat_natCast] at v1 v2
  refine lw_callY (kds := zkds) (vs := [(100030, ((3 : Nat) : Int)), (100032, ((1000 * (1 + 1) + 3 : Nat) : Int))]) (Qr := fun _ h' => tcR 0 (1000 * (1 + 1)) h h') (rest := []) zkp_ok zTW_good rfl (m_X9_copyFrom_a1 l) hnd S hKP (ycv_of yw_X9_copyFrom 382 dX11_again_30 zl_img rfl (by omega) (show 8 + (3 + 11) + 47 ≤ R.locals by omega) (zk_ex (kk := 28) (ts := [100032]) _ _ rfl (zkK ⟨28, by decide⟩) rfl rfl rfl)) ⟨Nat.zero_le _, Nat.zero_le _⟩ rfl (fun a ha => ?_) ⟨3, v, h2, e1, r⟩ hH hLA hS (fun q _ _ => rfl) hl.1 (by decide) ?_ (fun a h' H1 locs1 hQ oa oH oz oq oS => ?_)
  · rcases List.mem_cons.mp ha with rfl | ha
    · exact o2
    · rcases List.mem_cons.mp ha with rfl | ha
      · exact o1
      · cases ha
  · simp only [List.map_cons, List.map_nil, v1, v2]
    rfl
  · exact K h' H1 locs1 oH hQ oS
set_option maxHeartbeats 4000000 in
set_option maxRecDepth 10000 in
theorem ag_bd2 (l : Launch) {D : va_G} {cy : Nat → ClassId} {L : List Nat} {Θ : Nat → Option Nat} {h : Nat → Nat → Int} {p : Program} {e : Env} {R : Room} {s : State} {m : MethodId} {args : Array Value} {below : List Frame} {meth : Method} {c : Code} {Q : State → Prop} {w0 : Cond} {ls : Array Slot} {A : Nat → Prop} {base : Nat} {tb adK adV : Nat → Nat} {fv : Option Nat} {x : Int32} (S : CallFix p m c cX11_again 2 s args (w0 :: zTW) RX11) (hKW : KW D cy s) (hZ : zS0 base tb adK adV fv s)
    (hH : zH η zkds D vwCl cy L Θ h s.heap) (hnd : L.Nodup) (hLb : ∀ q ∈ L, base ≤ q) (hN : nmC η adK L Θ h) (hP : cP h) (him : h 2 2 = ((1000 * (2 + 1) + 3 : Nat) : Int)) (hPk : cPb (1000 * (2 + 1)) h) (hAe : A = fun q => q ∈ L) (hfr : 3 ≤ R.frames) (hlo : 69 ≤ R.locals) (hl : lv_has ls 2 [(0, .ref (η.1 1)), (1, .int x)]) (hxk : x.toInt = ((2 : Nat) : Int))
    (K : ∀ (h' : Nat → Nat → Int) (H1 : Heap) (locs1 : List Loc), zH η zkds D vwCl cy L Θ h' H1 → tcR 0 (1000 * (2 + 1)) h h' → va_S A s.heap H1 locs1 → W p l e R s m args below meth c H1 locs1 0 0 Q (F0 m 33 ls [])) : W p l e R s m args below meth c s.heap [] 0 0 Q (F0 m 20 ls []) := by
  obtain ⟨hx, hb, hml, hown, hts⟩ := id S
  have hKa : va_K D vwCl (tyW cy) s := hKW.1
  have hLA : ∀ q ∈ L, A q := fun q hq => by rw [hAe]; exact hq
  have hS : va_S A s.heap s.heap [] := va_S.rf
  have ha := hN.2.2.2.1
  obtain ⟨k2, k3, -⟩ := cK_0 hH ha hP
  have kI := cK_im (F := False) (g := h) hH ha hP (show 2 < 3 by decide) him
  have e11 : h 1 1 = ((2 : Nat) : Int) := hP.p (by decide)
  have e10 : h 1 0 = ((3 : Nat) : Int) := hP.p (by decide)
  refine lv_aload_n hx hb dX11_again_20 rfl (lv_at hl 0 rfl) ?_
  refine hg_get hx hb hts hown hKa (zFok_mono (fun w hw => List.mem_cons_of_mem _ hw) zf_RX11_10) ha zkd_63 ⟨rfl, rfl⟩ (by decide) hH dX11_again_21 ?_
  rw [show (zty (0, 11, 7, [(30, 0, 2147483647), (64, 0, 2147483647), (36, 0, 2147483647), (48, 0, 2147483647), (49, 0, 2147483647), (53, 0, 2147483647), (60, 0, 2147483647)]) 0).1 = 28 + 2 from rfl, e10, z_dr]
  refine lv_aload_n hx hb dX11_again_24 rfl (lv_at hl 0 rfl) ?_
  refine hg_get hx hb hts hown hKa (zFok_mono (fun w hw => List.mem_cons_of_mem _ hw) zf_RX11_16) ha zkd_63 ⟨rfl, rfl⟩ (by decide) hH dX11_again_25 ?_
  rw [show (zty (0, 11, 7, [(30, 0, 2147483647), (64, 0, 2147483647), (36, 0, 2147483647), (48, 0, 2147483647), (49, 0, 2147483647), (53, 0, 2147483647), (60, 0, 2147483647)]) 1).1 = 62 + 2 from rfl, e11, z_dr]
  refine lv_iload_n hx hb dX11_again_28 rfl (lv_at hl 1 rfl) ?_
  refine hg_img hx hb hKa k2 hH hxk (by decide) dX11_again_29 ?_
  have ei : va_rf (zrf η (h 2 2)) = .ref (η.1 (1000 * (2 + 1) + 3)) := by
    rw [him]
    exact z_dr 0 _
  rw [ei]
  have hKP : zKP η D cy L Θ s := ⟨hKW, zST_of hN.2.1 hZ hLb hN.1⟩
  obtain ⟨v, h2, e1, r⟩ := tcp_a2 (n := 3) (h := h) (by decide) hP.b hPk (cBb_of hH hPk kI (by decide))
  have o1 : yok Θ (100033, ((1000 * (2 + 1) + 3 : Nat) : Int)) := by
    unfold yok
    rw [if_neg (by decide)]
    exact ⟨by simp only; omega, by simp only [Int.toNat_natCast]; exact kI⟩
  have o2 : yok Θ (100030, ((3 : Nat) : Int)) := by
    unfold yok
    rw [if_neg (by decide)]
    exact ⟨by simp only; omega, by simp only [Int.toNat_natCast]; exact k3⟩
  have v1 := (y_ref (η := η) (k := 31) o1 rfl).2.2
  have v2 := (y_ref (η := η) (k := 28) o2 rfl).2.2
  simp only [Int.toNat_natCast] at v1 v2
  refine lw_callY (kds := zkds) (vs := [(100030, ((3 : Nat) : Int)), (100033, ((1000 * (2 + 1) + 3 : Nat) : Int))]) (Qr := fun _ h' => tcR 0 (1000 * (2 + 1)) h h') (rest := []) zkp_ok zTW_good rfl (m_X9_copyFrom_a2 l) hnd S hKP (ycv_of yw_X9_copyFrom 382 dX11_again_30 zl_img rfl (by omega) (show 8 + (3 + 11) + 47 ≤ R.locals by omega) (zk_ex (kk := 28) (ts := [100033]) _ _ rfl (zkK ⟨28, by decide⟩) rfl rfl rfl)) ⟨Nat.zero_le _, Nat.zero_le _⟩ rfl (fun a ha => ?_) ⟨3, v, h2, e1, r⟩ hH hLA hS (fun q _ _ => rfl) hl.1 (by decide) ?_ (fun a h' H1 locs1 hQ oa oH oz oq oS => ?_)
  · rcases List.mem_cons.mp ha with rfl | ha
    · exact o2
    · rcases List.mem_cons.mp ha with rfl | ha
      · exact o1
      · cases ha
  · simp only [List.map_cons, List.map_nil, v1, v2]
    rfl
  · exact K h' H1 locs1 oH hQ oS
set_option maxHeartbeats 4000000 in
set_option maxRecDepth 100000 in
theorem c_again (l : Launch) {D : va_G} {cy : Nat → ClassId} {L : List Nat} {Θ : Nat → Option Nat} {h : Nat → Nat → Int} {base : Nat} {tb adK adV : Nat → Nat} {fv : Option Nat} {x : Int32} (hnd : L.Nodup) (hLb : ∀ q ∈ L, base ≤ q) (hN : nmC η adK L Θ h) (hP : cP h) (hI : ∀ k, k < 3 → h 2 k = -1 ∨ (h 2 k = ((1000 * (k + 1) + 3 : Nat) : Int) ∧ cPb (1000 * (k + 1)) h)) :
    Met l yX11_again (Cond.code yX11_again cX11_again 2 (some .boolean) :: zTW) ({ frames := 3, cells := 0, slots := 0, locals := 69 } : Room) (va_Pc [.ref (η.1 1), .int x] (fun U => zH η zkds D vwCl cy L Θ h U.heap ∧ KW D cy U ∧ zS0 base tb adK adV fv U)) (va_Qi (fun v (u : Int32) => v = u) (fun u t => agB η D cy L Θ h x.toInt u t.heap) (fun q => q ∈ L)) 0 0 (fun q => q ∈ L) := by
  refine Met.ofW (cc := cX11_again) (maxL := 2) (ret := (some .boolean)) (by decide) rfl ?_
  intro p e s m args below meth c s₁ B hml hv
  obtain ⟨rfl, hH, hKW, hZ⟩ := hv
  have hx := B.exec
  have hb := B.bytes
  have hr := B.returns
  have hts := atoms_spec (ws := Cond.code yX11_again cX11_again 2 (some .boolean) :: zTW) B.pre
  have hown : s.vm.findClass RX11 = some m.cls := findClass_of_methodNamed B.named
  have hlocks := B.notSynchronized
  have hKa : va_K D vwCl (tyW cy) s := hKW.1
  have hl := lv_entry ([.ref (η.1 1), .int x]) (n := 2) (Nat.le_of_ble_eq_true rfl)
  rw [lg_entry_eq]
  generalize (lg_sl ([.ref (η.1 1), .int x]) ++ List.replicate (2 - (lg_sl ([.ref (η.1 1), .int x])).length) Slot.unset).toArray = ls at hl ⊢
  have hl : lv_has ls 2 [(0, .ref (η.1 1)), (1, .int x)] := hl
  have hS0 : va_S (fun q => q ∈ L) s.heap s.heap [] := va_S.rf
  have ha := hN.2.2.2.1
  obtain ⟨k2, k3, -⟩ := cK_0 hH ha hP
  have e11 : h 1 1 = ((2 : Nat) : Int) := hP.p (by decide)
  have z0 : (0 : Int32).toInt = 0 := rfl
  have z3 : (3 : Int32).toInt = 3 := rfl
  have S : CallFix p m c cX11_again 2 s _ (Cond.code yX11_again cX11_again 2 (some .boolean) :: zTW) RX11 := ⟨hx, hb, hml, hown, hts⟩
  refine lv_iload_n hx hb dX11_again_0 rfl (lv_at hl 1 rfl) ?_
  refine lv_if_lt (tgt := 18) hx hb dX11_again_1 (by decide) (fun c_1 => ?_) (fun c_1 => ?_)
  · have h1 := Int32.lt_iff_toInt_lt.mp c_1
    rw [z0] at h1
    refine lv_iconst (v := 0) hx hb dX11_again_18 (by decide +kernel) ?_
    exact W.zret (v := 0) hx hb hr (rfl) (fun t ht hW => ⟨⟨0, 0, rfl, rfl, by show agB η D cy L Θ h x.toInt 0 t.heap; rw [ht]; exact Or.inl ⟨Or.inl (by omega), rfl, hH⟩⟩, hS0.F ht⟩) hS0.2.2 dX11_again_19
  · have h1 : ¬ x.toInt < 0 := fun h9 => c_1 (Int32.lt_iff_toInt_lt.mpr (by rw [z0]; exact h9))
    refine lv_iload_n hx hb dX11_again_4 rfl (lv_at hl 1 rfl) ?_
    refine lv_iconst (v := 3) hx hb dX11_again_5 (by decide +kernel) ?_
    refine lv_icmp_ge (tgt := 18) hx hb dX11_again_6 (by decide) (fun c_2 => ?_) (fun c_2 => ?_)
    · have h2 := Int32.le_iff_toInt_le.mp c_2
      rw [z3] at h2
      refine lv_iconst (v := 0) hx hb dX11_again_18 (by decide +kernel) ?_
      exact W.zret (v := 0) hx hb hr (rfl) (fun t ht hW => ⟨⟨0, 0, rfl, rfl, by show agB η D cy L Θ h x.toInt 0 t.heap; rw [ht]; exact Or.inl ⟨Or.inl (by omega), rfl, hH⟩⟩, hS0.F ht⟩) hS0.2.2 dX11_again_19
    · have h2 : ¬ 3 ≤ x.toInt := fun h9 => c_2 (Int32.le_iff_toInt_le.mpr (by rw [z3]; exact h9))
      refine lv_aload_n hx hb dX11_again_9 rfl (lv_at hl 0 rfl) ?_
      refine hg_get hx hb hts hown hKa (zFok_mono (fun w hw => List.mem_cons_of_mem _ hw) zf_RX11_16) ha zkd_63 ⟨rfl, rfl⟩ (by decide) hH dX11_again_10 ?_
      rw [show (zty (0, 11, 7, [(30, 0, 2147483647), (64, 0, 2147483647), (36, 0, 2147483647), (48, 0, 2147483647), (49, 0, 2147483647), (53, 0, 2147483647), (60, 0, 2147483647)]) 1).1 = 62 + 2 from rfl, e11, z_dr]
      refine lv_iload_n hx hb dX11_again_13 rfl (lv_at hl 1 rfl) ?_
      rcases (show x.toInt = ((0 : Nat) : Int) ∨ x.toInt = ((1 : Nat) : Int) ∨ x.toInt = ((2 : Nat) : Int) by omega) with hk | hk | hk
      · refine hg_img hx hb hKa k2 hH hk (by decide) dX11_again_14 ?_
        rcases hI 0 (by decide) with him | ⟨him, hPk⟩
        · rw [him, show va_rf (zrf η (-1)) = .null from z_dm1 (η := η) 0]
          refine lv_ifnonnullN hx hb dX11_again_15 ?_
          refine lv_iconst (v := 0) hx hb dX11_again_18 (by decide +kernel) ?_
          exact W.zret (v := 0) hx hb hr (rfl) (fun t ht hW => ⟨⟨0, 0, rfl, rfl, by show agB η D cy L Θ h x.toInt 0 t.heap; rw [ht]; exact Or.inl ⟨Or.inr (by rw [hk, Int.toNat_natCast]; exact him), rfl, hH⟩⟩, hS0.F ht⟩) hS0.2.2 dX11_again_19
        · rw [him, show va_rf (zrf η ((1000 * (0 + 1) + 3 : Nat) : Int)) = .ref (η.1 (1000 * (0 + 1) + 3)) from z_dr 0 _]
          refine lv_ifnonnull (tgt := 20) hx hb dX11_again_15 (by decide) ?_
          refine ag_bd0 l S hKW hZ hH hnd hLb hN hP him hPk rfl (by decide) (by decide) hl hk (fun h' H1 locs1 hH1 hT1 hS1 => ?_)
          refine lv_iconst (v := 1) hx hb dX11_again_33 (by decide +kernel) ?_
          exact W.zret (v := 1) hx hb hr (rfl) (fun t ht hW => ⟨⟨1, 1, rfl, rfl, by show agB η D cy L Θ h x.toInt 1 t.heap; rw [ht]; exact Or.inr ⟨0, by decide, hk, rfl, by rw [him]; omega, h', hH1, hT1⟩⟩, hS1.F ht⟩) hS1.2.2 dX11_again_34
      · refine hg_img hx hb hKa k2 hH hk (by decide) dX11_again_14 ?_
        rcases hI 1 (by decide) with him | ⟨him, hPk⟩
        · rw [him, show va_rf (zrf η (-1)) = .null from z_dm1 (η := η) 0]
          refine lv_ifnonnullN hx hb dX11_again_15 ?_
          refine lv_iconst (v := 0) hx hb dX11_again_18 (by decide +kernel) ?_
          exact W.zret (v := 0) hx hb hr (rfl) (fun t ht hW => ⟨⟨0, 0, rfl, rfl, by show agB η D cy L Θ h x.toInt 0 t.heap; rw [ht]; exact Or.inl ⟨Or.inr (by rw [hk, Int.toNat_natCast]; exact him), rfl, hH⟩⟩, hS0.F ht⟩) hS0.2.2 dX11_again_19
        · rw [him, show va_rf (zrf η ((1000 * (1 + 1) + 3 : Nat) : Int)) = .ref (η.1 (1000 * (1 + 1) + 3)) from z_dr 0 _]
          refine lv_ifnonnull (tgt := 20) hx hb dX11_again_15 (by decide) ?_
          refine ag_bd1 l S hKW hZ hH hnd hLb hN hP him hPk rfl (by decide) (by decide) hl hk (fun h' H1 locs1 hH1 hT1 hS1 => ?_)
          refine lv_iconst (v := 1) hx hb dX11_again_33 (by decide +kernel) ?_
          exact W.zret (v := 1) hx hb hr (rfl) (fun t ht hW => ⟨⟨1, 1, rfl, rfl, by show agB η D cy L Θ h x.toInt 1 t.heap; rw [ht]; exact Or.inr ⟨1, by decide, hk, rfl, by rw [him]; omega, h', hH1, hT1⟩⟩, hS1.F ht⟩) hS1.2.2 dX11_again_34
      · refine hg_img hx hb hKa k2 hH hk (by decide) dX11_again_14 ?_
        rcases hI 2 (by decide) with him | ⟨him, hPk⟩
        · rw [him, show va_rf (zrf η (-1)) = .null from z_dm1 (η := η) 0]
          refine lv_ifnonnullN hx hb dX11_again_15 ?_
          refine lv_iconst (v := 0) hx hb dX11_again_18 (by decide +kernel) ?_
          exact W.zret (v := 0) hx hb hr (rfl) (fun t ht hW => ⟨⟨0, 0, rfl, rfl, by show agB η D cy L Θ h x.toInt 0 t.heap; rw [ht]; exact Or.inl ⟨Or.inr (by rw [hk, Int.toNat_natCast]; exact him), rfl, hH⟩⟩, hS0.F ht⟩) hS0.2.2 dX11_again_19
        · rw [him, show va_rf (zrf η ((1000 * (2 + 1) + 3 : Nat) : Int)) = .ref (η.1 (1000 * (2 + 1) + 3)) from z_dr 0 _]
          refine lv_ifnonnull (tgt := 20) hx hb dX11_again_15 (by decide) ?_
          refine ag_bd2 l S hKW hZ hH hnd hLb hN hP him hPk rfl (by decide) (by decide) hl hk (fun h' H1 locs1 hH1 hT1 hS1 => ?_)
          refine lv_iconst (v := 1) hx hb dX11_again_33 (by decide +kernel) ?_
          exact W.zret (v := 1) hx hb hr (rfl) (fun t ht hW => ⟨⟨1, 1, rfl, rfl, by show agB η D cy L Θ h x.toInt 1 t.heap; rw [ht]; exact Or.inr ⟨2, by decide, hk, rfl, by rw [him]; omega, h', hH1, hT1⟩⟩, hS1.F ht⟩) hS1.2.2 dX11_again_34
end
