/-! THE CLAIM OUT OF ONE WALK OF THE LAW'S BODY. Your part is whole_start (and what it stands on); all else here is the same for every law, but numbers. -/
def R_law : String := "ShoalClaimsLaw"
def lw_P (b : Addr) (xs : List Int32) (args : Array Value) (s : State) : Prop := args = #[.ref b] ∧ s.IntsAt b xs ∧ xs.length ≤ 3072 ∧ (Jvm.Cond.and given_1 narrow_1).before args s = true
def lw_Q (_ : Array Value) (s : State) (o : Outcome) (t : State) : Prop := o = .returned (some (.int 1)) ∧ Framed s o t [] 600000 7302250
def lw_Z (below : List Frame) (a : Array Value) (s : State) : State → Prop := fun t => ∃ o, t.status = .running ∧ Ended t below o ∧ lw_Q a s o t
/-- the law's own end, with 1 on the stack, nothing written that was there before, its room as the claim has it -/
theorem lw_ret {p : Program} {l : Launch} {e : Env} {s : State} {m : MethodId} {below : List Frame} {meth : Method} {c : Code} {b : Nat} (hx : p.tables.exec = Jvm.exec) (hb : c.code = code) (hr : meth.sig.returnType = ret) (hlocks : meth.locks = false) {pc : Nat} {H : Heap} {ls : Array Slot} (hdg : decode code pc = .ok (.ireturn, 1)) : W p l e room_1 s m #[Value.ref b] below meth c H [] 600000 7302250 (lw_Z below #[Value.ref b] s) (F0 m pc ls [.int 1]) := by
  intro T hT X
  obtain ⟨fs, hret, hrun, hended, hW, hframe⟩ := X.leave (v := some (.int 1)) (hlocks := hlocks) (fun h => by rw [hr] at h; cases h)
  have hmeth' : T.vm.method? m = some meth := X.method'
  refine ⟨T.setFrames fs, ?_, .returned (some (.int 1)), hrun, hended, rfl, ⟨_, rfl⟩, hW, hframe⟩
  jvm_step X.here [X.here.top, hx, hb, hdg, hmeth', hr, ret, narrow_b1]
  (try refine ⟨rfl, ?_⟩); (try refine ⟨rfl, ?_⟩)
  first | (intro acts; rw [hret _ acts rfl rfl rfl]) | rw [hret _ _ rfl rfl rfl]
  exact Steps.refl _
/-- what holds at the law's entry: the machine, the code, the tables' words (any of lw_tbl by 'hts w (by decide +kernel)'), the script of L ints xs at the cell b, what the Statement gives of the start (any of its parts by flat_of_before) -/
def lw_At (p : Program) (s : State) (m : MethodId) (meth : Method) (c : Code) (b L : Nat) (xs : Nat → Int32) : Prop :=
  p.tables.exec = Jvm.exec ∧ c.code = code ∧ meth.sig.returnType = ret ∧ c.maxLocals = 4 ∧ s.vm.findClass R_law = some m.cls ∧ (∀ w ∈ lw_tbl, w.before #[Value.ref b] s = true) ∧ va_X b L xs s s.heap ∧ b < s.heap.size ∧ meth.locks = false ∧ (Jvm.Cond.and given_1 narrow_1).before #[Value.ref b] s = true
theorem zl_i11 : Cond.initialized RX11 ∈ zTW := zTin 101 (by decide +kernel) rfl
/-! the law's walk: what is at hand, and what holds between two calls -/
theorem z_lwt {w : Cond} (h : w ∈ zTW) : w ∈ lw_tbl := (List.mem_filter.mp h).1
def lwW0 : Cond := Cond.initialized RX11
theorem lwW0_in : lwW0 ∈ lw_tbl := z_lwt zl_i11
theorem lw_S {p : Program} {s : State} {m : MethodId} {meth : Method} {c : Code} {b L : Nat} {xs : Nat → Int32} (C0 : lw_At p s m meth c b L xs) : CallFix p m c code 4 s #[Value.ref b] (lwW0 :: zTW) RL := by
  obtain ⟨hx, hb, hr, hml, hown, hts0, hX, hbl, hlocks, hgv⟩ := C0
  refine ⟨hx, hb, hml, hown, fun w hw => ?_⟩
  rcases List.mem_cons.mp hw with rfl | hw
  · exact hts0 _ lwW0_in
  · exact hts0 _ (z_lwt hw)
/-- the law's locals -/
def lwL (ls : Array Slot) (qa qr i b : Nat) : Prop := lv_has ls 4 [(3, .int (nI i)), (2, .ref qr), (1, .ref qa), (0, .ref b)]
section LWG
variable {η ζ : zRn} {F : Prop} {p : Program} {l : Launch} {e : Env} {s : State} {m : MethodId} {below : List Frame} {meth : Method} {c : Code} {b N : Nat} {xs : Nat → Int32} {Q : State → Prop} {H : Heap} {locs : List Loc} {cells slots pc : Nat} {ls : Array Slot} {st rest : List Value} {a r i qa qr : Nat} {D : va_G} {cy : Nat → ClassId}
/-- one number of the script -/
theorem lw_arg (C0 : lw_At p s m meth c b N xs) (hN : N ≤ 3072) (hS : va_S (fun q => s.heap.size ≤ q) s.heap H locs) (hl : lwL ls qa qr i b) (k : Nat) (hi : i + 6 ≤ N) (hk : k < 6) {v : Int} (hv : Int32.ofInt v = nI k) (d1 : decode code pc = .ok (.aload_n 0, 1)) (d2 : decode code (pc + 1) = .ok (.iload_n 3, 1)) (d3 : decode code (pc + 1 + 1) = .ok (.iconst v, 1)) (d4 : decode code (pc + 1 + 1 + 1) = .ok (.iadd, 1)) (d5 : decode code (pc + 1 + 1 + 1 + 1) = .ok (.iaload, 1))
    (w : W p l e room_1 s m #[Value.ref b] below meth c H locs cells slots Q (F0 m (pc + 1 + 1 + 1 + 1 + 1) ls (.int (xs (i + k)) :: st))) : W p l e room_1 s m #[Value.ref b] below meth c H locs cells slots Q (F0 m pc ls st) := by
  obtain ⟨hx, hb, hr, hml, hown, hts0, hX, hbl, hlocks, hgv⟩ := C0
  refine lv_aload_n hx hb d1 rfl (lv_at hl 3 rfl) ?_
  refine lv_iload_n hx hb d2 rfl (lv_at hl 0 rfl) ?_
  refine lv_iconst (v := nI k) hx hb d3 hv ?_
  refine lv_iadd hx hb d4 ?_
  rw [nI_add]
  refine va_sld (A := fun q => s.heap.size ≤ q) hx hb hX hbl (Nat.not_le.mpr hbl) hS (vp_in_nI (by omega) (by omega)) d5 ?_
  rw [nI_clamp (by omega)]
  exact w
/-- the class's names: Strings, all cells named, the Claims, no name yet for images that aren't there -/
def nmC (η : zRn) (adK : Nat → Nat) (L : List Nat) (Θ : Nat → Option Nat) (h : yH) : Prop := zNm Θ ∧ (∀ i, i < 15 → η.1 (1000000 + i) = adK i) ∧ (∀ q ∈ L, ∃ k, Θ (η.2 q) = some k) ∧ Θ 1 = some 63 ∧ ∀ k, k < 3 → h 2 k = -1 → ∀ a, 1000 * (k + 1) ≤ a → a < 1000 * (k + 2) → Θ a = none
/-- the cells of both -/
def lwB (s : State) (L M : List Nat) : Prop := L.Nodup ∧ M.Nodup ∧ (∀ q ∈ L, q ∉ M) ∧ (∀ q ∈ L, s.heap.size ≤ q) ∧ ∀ q ∈ M, s.heap.size ≤ q
/-- what holds between two calls -/
def lwI (F : Prop) (s : State) (D : va_G) (cy : Nat → ClassId) (adK : Nat → Nat) (qa qr : Nat) (H : Heap) : Prop := ∃ (η ζ : zRn) (L M : List Nat) (Θ Ξ : Nat → Option Nat) (h g : Nat → Nat → Int), lwB s L M ∧ nmC η adK L Θ h ∧ nmR Ξ ∧ zH η zkds D vwCl cy L Θ h H ∧ zH ζ zkdm D vwCl cy M Ξ g H ∧ (η.1 1 = qa ∧ ζ.1 35 = qr) ∧ RW F h g
/-- the machine's side of the walk: what stays the same -/
def lwX (l : Launch) (p : Program) (s : State) (m : MethodId) (meth : Method) (c : Code) (b N : Nat) (xs : Nat → Int32) (D : va_G) (cy : Nat → ClassId) (tb adK adV : Nat → Nat) (fv : Option Nat) : Prop := lw_At p s m meth c b N xs ∧ N ≤ 3072 ∧ KW D cy s ∧ zS0 s.heap.size tb adK adV fv s
variable {tb adK adV : Nat → Nat} {fv : Option Nat} {L M : List Nat} {Θ Ξ : Nat → Option Nat} {h g : Nat → Nat → Int}
theorem z_i32 {As : List Int} {ivs : List zIV} (h : zge As ivs) (hv : ivs.all (fun q => decide (-2147483648 ≤ q.1) && decide (q.2 ≤ 2147483647)) = true) : ∀ x ∈ As, -2147483648 ≤ x ∧ x ≤ 2147483647 := by
  intro x hx
  obtain ⟨i, hi⟩ := List.getElem?_of_mem hx
  have hlt := (List.getElem?_eq_some_iff.mp hi).1
  have hlt2 : i < ivs.length := by rw [← h.1]; exact hlt
  have hq : ivs[i]? = some ivs[i] := List.getElem?_eq_getElem hlt2
  have h1 := h.2 i _ hq
  have h2 := List.all_eq_true.mp hv _ (List.mem_of_getElem? hq)
  simp only [Bool.and_eq_true, decide_eq_true_eq] at h2
  rw [List.getD_eq_getElem?_getD, hi] at h1
  simp only [Option.getD_some] at h1
  omega
theorem zb0 {a : Nat} {As T : List Int} {ivs Tiv : List zIV} (ha : a < 1000000) (hAs : zge As ivs) (hT : zge T Tiv) : zge (([0, (a : Int)] ++ As) ++ T) (([(0, 0), (0, 2147483647)] ++ ivs) ++ Tiv) := zg_app (zg_app (zg_c (by decide) (by decide) (zg_c (by show (0 : Int) ≤ (a : Int); omega) (by show (a : Int) ≤ 2147483647; omega) zg_n)) hAs) hT
/-- a call of the class -/
theorem lwC {C : zCT} {As T : List Int} {ivs Tiv : List zIV} (X : lwX l p s m meth c b N xs D cy tb adK adV fv) (hM : zMet zkds vwCl zTW zKP l C) (hC : zCV zkds vwCl zTW RL code room_1.frames room_1.locals pc C) (hea : C.2.2.1.1 = zea 65 As.length) (henv : C.2.2.1.2.1 = ([(0, 0), (0, 2147483647)] ++ ivs) ++ Tiv) (hrel : C.2.2.1.2.2.2.2.2 = []) (hiv : ivs.all (fun q => decide (-2147483648 ≤ q.1) && decide (q.2 ≤ 2147483647)) = true) (hAs : zge As ivs) (hT : zge T Tiv) (hout : zone1 C.2.2.2.1 = true) (ha1 : a < 1000000)
    (hB : lwB s L M) (hNm : zNm Θ) (hη : ∀ i, i < 15 → η.1 (1000000 + i) = adK i) (hH : zH η zkds D vwCl cy L Θ h H) (hG : zH ζ zkdm D vwCl cy M Ξ g H) (ha : Θ a = some 63) (hV : zgv Θ h (([0, (a : Int)] ++ As) ++ T) C.2.2.1.2.2.2.2.1)
    (hS : va_S (fun q => s.heap.size ≤ q) s.heap H locs) (hcs : cells ≤ 600000 ∧ slots ≤ 7302250) (hl : lwL ls qa qr i b) (hcat : (rest.map (fun v => v.category)).sum ≤ 8) (hst : st = (As.map (fun x => (.int (Int32.ofInt x) : Value))).reverse ++ (.ref (η.1 a) :: rest))
    (k : ∀ (out : zAS) (q : zAV) (ρ : List Int) (h' : Nat → Nat → Int) (H1 : Heap) (locs1 : List Loc), out ∈ C.2.2.2.1 → out.2.2.1 = [q] → zge ((([0, (a : Int)] ++ As) ++ T) ++ ρ) out.1 → zgv Θ h' ((([0, (a : Int)] ++ As) ++ T) ++ ρ) out.2.2.2.1 → zH η zkds D vwCl cy L Θ h' H1 → (∀ a k j, Θ a = some k → zinE C.2.2.2.2 k j j = false → h' a j = h a j) → zH ζ zkdm D vwCl cy M Ξ g H1 → va_S (fun q => s.heap.size ≤ q) s.heap H1 locs1 →
      W p l e room_1 s m #[Value.ref b] below meth c H1 locs1 cells slots Q (F0 m (pc + 3) ls (.int (Int32.ofInt (zev ((([0, (a : Int)] ++ As) ++ T) ++ ρ) q)) :: rest))) :
    W p l e room_1 s m #[Value.ref b] below meth c H locs cells slots Q (F0 m pc ls st) := by
  obtain ⟨C0, hN, hKW, hZ⟩ := X
  obtain ⟨hLn, hMn, hLM, hLb, hMb⟩ := hB
  have hKP : zKP η D cy L Θ s := ⟨hKW, zST_of hη hZ hLb hNm⟩
  refine lw_call zkp_ok zTW_good rfl hM hLn (lw_S C0) hKP hC hcs (by rw [henv]; exact zb0 ha1 hAs hT) (by rw [hea]; exact zea_ga ha (z_i32 hAs hiv)) hV (by rw [hrel]; exact z_rl0) hH hLb hS (fun q h1 _ => hS.2.1 q h1 (Nat.not_le.mpr h1)) hl.1 hcat ?_ (fun v out ρ h' H1 locs1 ho oE oS ov oV oH oX oz oq oSS => ?_)
  · rw [hst, hea, zea_vo]
    simp
  · obtain ⟨q, hq, -, hv⟩ := z_one1 hout ho ov
    rw [hv]
    exact k out q ρ h' H1 locs1 ho hq oE oV oH oX (zH_kept hG (fun q hq => oq q (zH_lt hG hq) (fun z => hLM q z hq))) oSS
/-- a call of the reference -/
theorem lwR {C : zCT} {As T : List Int} {ivs Tiv : List zIV} (X : lwX l p s m meth c b N xs D cy tb adK adV fv) (hM : zMet zkdm vwCl zTW zKPr l C) (hC : zCV zkdm vwCl zTW RL code room_1.frames room_1.locals pc C) (hea : C.2.2.1.1 = zea 37 As.length) (henv : C.2.2.1.2.1 = ([(0, 0), (0, 2147483647)] ++ ivs) ++ Tiv) (hrel : C.2.2.1.2.2.2.2.2 = []) (hiv : ivs.all (fun q => decide (-2147483648 ≤ q.1) && decide (q.2 ≤ 2147483647)) = true) (hAs : zge As ivs) (hT : zge T Tiv) (hout : zone1 C.2.2.2.1 = true) (hr1 : r < 1000000)
    (hB : lwB s L M) (hH : zH η zkds D vwCl cy L Θ h H) (hG : zH ζ zkdm D vwCl cy M Ξ g H) (hr : Ξ r = some 35) (hV : zgv Ξ g (([0, (r : Int)] ++ As) ++ T) C.2.2.1.2.2.2.2.1)
    (hS : va_S (fun q => s.heap.size ≤ q) s.heap H locs) (hcs : cells ≤ 600000 ∧ slots ≤ 7302250) (hl : lwL ls qa qr i b) (hcat : (rest.map (fun v => v.category)).sum ≤ 8) (hst : st = (As.map (fun x => (.int (Int32.ofInt x) : Value))).reverse ++ (.ref (ζ.1 r) :: rest))
    (k : ∀ (out : zAS) (q : zAV) (ρ : List Int) (g' : Nat → Nat → Int) (H1 : Heap) (locs1 : List Loc), out ∈ C.2.2.2.1 → out.2.2.1 = [q] → zge ((([0, (r : Int)] ++ As) ++ T) ++ ρ) out.1 → zgv Ξ g' ((([0, (r : Int)] ++ As) ++ T) ++ ρ) out.2.2.2.1 → zH η zkds D vwCl cy L Θ h H1 → (∀ a k j, Ξ a = some k → zinE C.2.2.2.2 k j j = false → g' a j = g a j) → zH ζ zkdm D vwCl cy M Ξ g' H1 → va_S (fun q => s.heap.size ≤ q) s.heap H1 locs1 →
      W p l e room_1 s m #[Value.ref b] below meth c H1 locs1 cells slots Q (F0 m (pc + 3) ls (.int (Int32.ofInt (zev ((([0, (r : Int)] ++ As) ++ T) ++ ρ) q)) :: rest))) :
    W p l e room_1 s m #[Value.ref b] below meth c H locs cells slots Q (F0 m pc ls st) := by
  obtain ⟨C0, hN, hKW, hZ⟩ := X
  obtain ⟨hLn, hMn, hLM, hLb, hMb⟩ := hB
  refine lw_call zkpr_ok zTW_good rfl hM hMn (lw_S C0) (show zKPr ζ D cy M Ξ s from hKW) hC hcs (by rw [henv]; exact zb0 hr1 hAs hT) (by rw [hea]; exact zea_ga hr (z_i32 hAs hiv)) hV (by rw [hrel]; exact z_rl0) hG hMb hS (fun q h1 _ => hS.2.1 q h1 (Nat.not_le.mpr h1)) hl.1 hcat ?_ (fun v out ρ g' H1 locs1 ho oE oS ov oV oH oX oz oq oSS => ?_)
  · rw [hst, hea, zea_vo]
    simp
  · obtain ⟨q, hq, -, hv⟩ := z_one1 hout ho ov
    rw [hv]
    exact k out q ρ g' H1 locs1 ho hq oE oV (zH_kept hH (fun q hq => oq q (zH_lt hH hq) (fun z => hLM q hq z))) oX oH oSS
theorem nmC.keep {h' : yH} (hN : nmC η adK L Θ h) (e : ∀ k, h' 2 k = h 2 k) : nmC η adK L Θ h' := ⟨hN.1, hN.2.1, hN.2.2.1, hN.2.2.2.1, fun k hk w => hN.2.2.2.2 k hk (by rw [← e]; exact w)⟩
/-- a call of the class that leaves what is told and the images -/
theorem lwCp {C : zCT} {As : List Int} {ivs : List zIV} (X : lwX l p s m meth c b N xs D cy tb adK adV fv) (hM : zMet zkds vwCl zTW zKP l C) (hC : zCV zkds vwCl zTW RL code room_1.frames room_1.locals pc C) (hea : C.2.2.1.1 = zea 65 As.length) (henv : C.2.2.1.2.1 = ([(0, 0), (0, 2147483647)] ++ ivs) ++ []) (hov : C.2.2.1.2.2.2.2.1 = [] ∧ C.2.2.1.2.2.2.2.2 = []) (hiv : ivs.all (fun q => decide (-2147483648 ≤ q.1) && decide (q.2 ≤ 2147483647)) = true) (hAs : zge As ivs) (hout : zone1 C.2.2.2.1 = true) (heff : efC C.2.2.2.2 = true ∧ (F → efS C.2.2.2.2 = true ∧ efW C.2.2.2.2 = true))
    (hI : lwI F s D cy adK qa qr H) (hS : va_S (fun q => s.heap.size ≤ q) s.heap H locs) (hcs : cells ≤ 600000 ∧ slots ≤ 7302250) (hl : lwL ls qa qr i b) (hcat : (rest.map (fun v => v.category)).sum ≤ 8) (hst : st = (As.map (fun x => (.int (Int32.ofInt x) : Value))).reverse ++ (.ref qa :: rest))
    (k : ∀ (x : Int32) (H1 : Heap) (locs1 : List Loc), lwI F s D cy adK qa qr H1 → va_S (fun q => s.heap.size ≤ q) s.heap H1 locs1 → W p l e room_1 s m #[Value.ref b] below meth c H1 locs1 cells slots Q (F0 m (pc + 3) ls (.int x :: rest))) :
    W p l e room_1 s m #[Value.ref b] below meth c H locs cells slots Q (F0 m pc ls st) := by
  obtain ⟨η, ζ, L, M, Θ, Ξ, h, g, hB, hN, hNR, hH, hG, ⟨ea, er⟩, R⟩ := hI
  refine lwC (T := []) (a := 1) X hM hC hea henv hov.2 hiv hAs zg_n hout (by decide) hB hN.1 hN.2.1 hH hG hN.2.2.2.1 (by rw [hov.1]; exact z_ov0) hS hcs hl hcat (by rw [ea]; exact hst) (fun out q ρ h' H1 locs1 ho hq oE oV oH oX oG oS => ?_)
  obtain ⟨R1, e2⟩ := RW.cf hH hN.2.2.2.1 oX heff.1 heff.2 R
  exact k _ H1 locs1 ⟨η, ζ, L, M, Θ, Ξ, h', g, hB, hN.keep e2, hNR, oH, oG, ⟨ea, er⟩, R1⟩ oS
/-- a call of the reference that leaves all that -/
theorem lwRo {C : zCT} {As T : List Int} {ivs Tiv : List zIV} (X : lwX l p s m meth c b N xs D cy tb adK adV fv) (hM : zMet zkdm vwCl zTW zKPr l C) (hC : zCV zkdm vwCl zTW RL code room_1.frames room_1.locals pc C) (hea : C.2.2.1.1 = zea 37 As.length) (henv : C.2.2.1.2.1 = ([(0, 0), (0, 2147483647)] ++ ivs) ++ Tiv) (hrel : C.2.2.1.2.2.2.2.2 = []) (hiv : ivs.all (fun q => decide (-2147483648 ≤ q.1) && decide (q.2 ≤ 2147483647)) = true) (hAs : zge As ivs) (hT : zge T Tiv) (hout : zone1 C.2.2.2.1 = true) (heff : efR C.2.2.2.2 = true)
    (hB : lwB s L M) (hN : nmC η adK L Θ h) (hNR : nmR Ξ) (hH : zH η zkds D vwCl cy L Θ h H) (hG : zH ζ zkdm D vwCl cy M Ξ g H) (hqq : η.1 1 = qa ∧ ζ.1 35 = qr) (R : RW F h g) (hV : zgv Ξ g (([0, ((35 : Nat) : Int)] ++ As) ++ T) C.2.2.1.2.2.2.2.1)
    (hS : va_S (fun q => s.heap.size ≤ q) s.heap H locs) (hcs : cells ≤ 600000 ∧ slots ≤ 7302250) (hl : lwL ls qa qr i b) (hcat : (rest.map (fun v => v.category)).sum ≤ 8) (hst : st = (As.map (fun x => (.int (Int32.ofInt x) : Value))).reverse ++ (.ref qr :: rest))
    (k : ∀ (x : Int32) (H1 : Heap) (locs1 : List Loc), lwI F s D cy adK qa qr H1 → va_S (fun q => s.heap.size ≤ q) s.heap H1 locs1 → W p l e room_1 s m #[Value.ref b] below meth c H1 locs1 cells slots Q (F0 m (pc + 3) ls (.int x :: rest))) :
    W p l e room_1 s m #[Value.ref b] below meth c H locs cells slots Q (F0 m pc ls st) := by
  refine lwR (r := 35) X hM hC hea henv hrel hiv hAs hT hout (by decide) hB hH hG hNR.1 hV hS hcs hl hcat (by rw [hqq.2]; exact hst) (fun out q ρ g' H1 locs1 ho hq oE oV oH oX oG oS => ?_)
  obtain ⟨-, bm, bl, -⟩ := cT_b hH hN.2.2.2.1 R.1
  exact k _ H1 locs1 ⟨η, ζ, L, M, Θ, Ξ, h, g', hB, hN, hNR, oH, oG, hqq, RW.rf hG hNR oX heff (rP_of oG hNR).1 bl bm.2 R⟩ oS
theorem lwRp {C : zCT} {As : List Int} {ivs : List zIV} (X : lwX l p s m meth c b N xs D cy tb adK adV fv) (hM : zMet zkdm vwCl zTW zKPr l C) (hC : zCV zkdm vwCl zTW RL code room_1.frames room_1.locals pc C) (hea : C.2.2.1.1 = zea 37 As.length) (henv : C.2.2.1.2.1 = ([(0, 0), (0, 2147483647)] ++ ivs) ++ []) (hov : C.2.2.1.2.2.2.2.1 = [] ∧ C.2.2.1.2.2.2.2.2 = []) (hiv : ivs.all (fun q => decide (-2147483648 ≤ q.1) && decide (q.2 ≤ 2147483647)) = true) (hAs : zge As ivs) (hout : zone1 C.2.2.2.1 = true) (heff : efR C.2.2.2.2 = true)
    (hI : lwI F s D cy adK qa qr H) (hS : va_S (fun q => s.heap.size ≤ q) s.heap H locs) (hcs : cells ≤ 600000 ∧ slots ≤ 7302250) (hl : lwL ls qa qr i b) (hcat : (rest.map (fun v => v.category)).sum ≤ 8) (hst : st = (As.map (fun x => (.int (Int32.ofInt x) : Value))).reverse ++ (.ref qr :: rest))
    (k : ∀ (x : Int32) (H1 : Heap) (locs1 : List Loc), lwI F s D cy adK qa qr H1 → va_S (fun q => s.heap.size ≤ q) s.heap H1 locs1 → W p l e room_1 s m #[Value.ref b] below meth c H1 locs1 cells slots Q (F0 m (pc + 3) ls (.int x :: rest))) :
    W p l e room_1 s m #[Value.ref b] below meth c H locs cells slots Q (F0 m pc ls st) := by
  obtain ⟨η, ζ, L, M, Θ, Ξ, h, g, hB, hN, hNR, hH, hG, hqq, R⟩ := hI
  exact lwRo (T := []) X hM hC hea henv hov.2 hiv hAs zg_n hout heff hB hN hNR hH hG hqq R (by rw [hov.1]; exact z_ov0) hS hcs hl hcat hst k
/-- what a call by a sea must know of the reference -/
def sOv (n : Nat) : List zOV := [((35, 1), 5, (6, n, 0)), ((4, n), 0, (0, n + 1, 0)), ((4, n), 1, (0, n + 2, 0)), ((4, n), 2, (0, n + 3, 0)), ((35, 1), 6, (7, n + 4, 0)), ((5, n + 4), 0, (0, n + 5, 0)), ((5, n + 4), 4, (0, n + 6, 0)), ((5, n + 4), 50, (0, n + 7, 0)), ((5, n + 4), 54, (0, n + 8, 0))]
def sTv (g : Nat → Nat → Int) (r : Nat) : List Int := [g r 5, rMn g r 0, rMn g r 1, rMn g r 2, g r 6, rSe g r 0, rSe g r 4, rSe g r 50, rSe g r 54]
theorem z_tl {r : Nat} {As T : List Int} {j : Nat} : (([0, (r : Int)] ++ As) ++ T).getD (2 + As.length + j) 0 = T.getD j 0 := by
  have := z_gr2 (σ := [0, (r : Int)] ++ As) (τ := T) (i := j)
  rw [List.length_append] at this
  exact this
theorem sOv_ok {r : Nat} {As : List Int} (hG : zH ζ zkdm D vwCl cy M Ξ g H) (hr : Ξ r = some 35) {T0 : List Int} : zgv Ξ g (([0, (r : Int)] ++ As) ++ (sTv g r ++ T0)) (sOv (2 + As.length)) := by
  have p5 := rP5 hG hr
  have p6 := rP6 hG hr
  have tl : ∀ j : Nat, j < 9 → (([0, (r : Int)] ++ As) ++ (sTv g r ++ T0)).getD (2 + As.length + j) 0 = (sTv g r).getD j 0 := fun j hj => by rw [z_tl, z_gd (show j < (sTv g r).length from hj)]
  have e1 : (([0, (r : Int)] ++ As) ++ (sTv g r ++ T0)).getD 1 0 = (r : Int) := by simp
  have ln : ∀ j : Nat, j < 9 → 2 + As.length + j < (([0, (r : Int)] ++ As) ++ (sTv g r ++ T0)).length := fun j hj => by
    rw [List.length_append, List.length_append, List.length_append]
    show _ < 2 + As.length + (9 + T0.length)
    omega
  have t0 := tl 0 (by decide)
  have t4 := tl 4 (by decide)
  rw [Nat.add_zero] at t0
  have i32 : ∀ {A B x : Int}, A ≤ x ∧ x ≤ B → -2147483648 ≤ A → B ≤ 2147483647 → zok Ξ 0 x := fun h h1 h2 => ⟨by omega, by omega⟩
  refine z_ov1 (by simp) (by have := ln 0 (by decide); omega) (by rw [e1]; exact Int.natCast_nonneg _) (by rw [e1, Int.toNat_natCast]; exact hr) (by rw [e1, t0, Int.toNat_natCast]; rfl) (by rw [t0]; exact Or.inr p5) ?_
  refine z_ov1 (by have := ln 0 (by decide); omega) (ln 1 (by decide)) (by rw [t0]; exact p5.1) (by rw [t0]; exact p5.2) (by rw [t0, tl 1 (by decide)]; rfl) (by rw [tl 1 (by decide)]; exact i32 (rBm hG hr (k := 0) (by decide)) (by decide) (by decide)) ?_
  refine z_ov1 (by have := ln 0 (by decide); omega) (ln 2 (by decide)) (by rw [t0]; exact p5.1) (by rw [t0]; exact p5.2) (by rw [t0, tl 2 (by decide)]; rfl) (by rw [tl 2 (by decide)]; exact i32 (rBm hG hr (k := 1) (by decide)) (by decide) (by decide)) ?_
  refine z_ov1 (by have := ln 0 (by decide); omega) (ln 3 (by decide)) (by rw [t0]; exact p5.1) (by rw [t0]; exact p5.2) (by rw [t0, tl 3 (by decide)]; rfl) (by rw [tl 3 (by decide)]; exact i32 (rBm hG hr (k := 2) (by decide)) (by decide) (by decide)) ?_
  refine z_ov1 (by simp) (ln 4 (by decide)) (by rw [e1]; exact Int.natCast_nonneg _) (by rw [e1, Int.toNat_natCast]; exact hr) (by rw [e1, t4, Int.toNat_natCast]; rfl) (by rw [t4]; exact Or.inr p6) ?_
  refine z_ov1 (ln 4 (by decide)) (ln 5 (by decide)) (by rw [t4]; exact p6.1) (by rw [t4]; exact p6.2) (by rw [t4, tl 5 (by decide)]; rfl) (by rw [tl 5 (by decide)]; exact i32 (rBe0 hG hr (k := 0) (by decide)) (by decide) (by decide)) ?_
  refine z_ov1 (ln 4 (by decide)) (ln 6 (by decide)) (by rw [t4]; exact p6.1) (by rw [t4]; exact p6.2) (by rw [t4, tl 6 (by decide)]; rfl) (by rw [tl 6 (by decide)]; exact i32 (rBe4 hG hr (k := 4) (by decide)) (by decide) (by decide)) ?_
  refine z_ov1 (ln 4 (by decide)) (ln 7 (by decide)) (by rw [t4]; exact p6.1) (by rw [t4]; exact p6.2) (by rw [t4, tl 7 (by decide)]; rfl) (by rw [tl 7 (by decide)]; exact i32 (rBe0 hG hr (k := 50) (by decide)) (by decide) (by decide)) ?_
  exact z_ov1 (ln 4 (by decide)) (ln 8 (by decide)) (by rw [t4]; exact p6.1) (by rw [t4]; exact p6.2) (by rw [t4, tl 8 (by decide)]; rfl) (by rw [tl 8 (by decide)]; exact i32 (rBe4 hG hr (k := 54) (by decide)) (by decide) (by decide)) z_ov0
/-- a contract by a sea -/
def sCk (C : zCT) (n : Nat) (q : zIV) (rv : List zIV) (m0 s0 s4 s5 s9 : zIV) : Prop := C.2.2.1.1 = zea 37 n ∧ C.2.2.1.2.1 = ([(0, 0), (0, 2147483647)] ++ (q :: rv)) ++ [(0, 2147483647), m0, (0, 2), (0, 2), (0, 2147483647), s0, s4, s5, s9] ∧ C.2.2.1.2.2.2.2.2 = [] ∧ C.2.2.1.2.2.2.2.1 = sOv (2 + n) ∧ zone1 C.2.2.2.1 = true ∧ efR C.2.2.2.2 = true
theorem lwRs {C1 C2 C3 C4 C5 C6 : zCT} {sea : Int} {Rs : List Int} {rv : List zIV} (X : lwX l p s m meth c b N xs D cy tb adK adV fv) (hM : zMet zkdm vwCl zTW zKPr l C1 ∧ zMet zkdm vwCl zTW zKPr l C2 ∧ zMet zkdm vwCl zTW zKPr l C3 ∧ zMet zkdm vwCl zTW zKPr l C4 ∧ zMet zkdm vwCl zTW zKPr l C5 ∧ zMet zkdm vwCl zTW zKPr l C6) (hC : zCV zkdm vwCl zTW RL code room_1.frames room_1.locals pc C1 ∧ zCV zkdm vwCl zTW RL code room_1.frames room_1.locals pc C2 ∧ zCV zkdm vwCl zTW RL code room_1.frames room_1.locals pc C3 ∧ zCV zkdm vwCl zTW RL code room_1.frames room_1.locals pc C4 ∧ zCV zkdm vwCl zTW RL code room_1.frames room_1.locals pc C5 ∧ zCV zkdm vwCl zTW RL code room_1.frames room_1.locals pc C6)
    (k1 : sCk C1 (Rs.length + 1) (0, 0) rv (1, 2) (2, 8) (1, 9) (0, 8) (0, 9)) (k2 : sCk C2 (Rs.length + 1) (1, 1) rv (2, 2) (0, 8) (0, 9) (2, 8) (1, 9)) (k3 : sCk C3 (Rs.length + 1) (-2147483648, -1) rv (0, 2) (0, 8) (0, 9) (0, 8) (0, 9)) (k4 : sCk C4 (Rs.length + 1) (2, 2147483647) rv (0, 2) (0, 8) (0, 9) (0, 8) (0, 9)) (k5 : sCk C5 (Rs.length + 1) (0, 0) rv (0, 0) (0, 8) (0, 9) (0, 8) (0, 9)) (k6 : sCk C6 (Rs.length + 1) (1, 1) rv (0, 1) (0, 8) (0, 9) (0, 8) (0, 9))
    (hiv : rv.all (fun q => decide (-2147483648 ≤ q.1) && decide (q.2 ≤ 2147483647)) = true) (hsea : -2147483648 ≤ sea ∧ sea ≤ 2147483647) (hAs : zge Rs rv) (hI : lwI F s D cy adK qa qr H)
    (hS : va_S (fun q => s.heap.size ≤ q) s.heap H locs) (hcs : cells ≤ 600000 ∧ slots ≤ 7302250) (hl : lwL ls qa qr i b) (hcat : (rest.map (fun v => v.category)).sum ≤ 8) (hst : st = ((sea :: Rs).map (fun x => (.int (Int32.ofInt x) : Value))).reverse ++ (.ref qr :: rest))
    (k : ∀ (x : Int32) (H1 : Heap) (locs1 : List Loc), lwI F s D cy adK qa qr H1 → va_S (fun q => s.heap.size ≤ q) s.heap H1 locs1 → W p l e room_1 s m #[Value.ref b] below meth c H1 locs1 cells slots Q (F0 m (pc + 3) ls (.int x :: rest))) :
    W p l e room_1 s m #[Value.ref b] below meth c H locs cells slots Q (F0 m pc ls st) := by
  obtain ⟨η, ζ, L, M, Θ, Ξ, h, g, hB, hN, hNR, hH, hG, hqq, R⟩ := hI
  have hr := hNR.1
  obtain ⟨j1, j2⟩ := RR.J hG hNR R.1
  have p5 := rP5 hG hr
  have p6 := rP6 hG hr
  have u5 : g 35 5 ≤ 2147483647 := (zH_in hG hr zkm_35 (j := 5) (by decide +kernel)).2.2
  have u6 : g 35 6 ≤ 2147483647 := (zH_in hG hr zkm_35 (j := 6) (by decide +kernel)).2.2
  have m0 := rBm hG hr (k := 0) (by decide)
  have m1 := rBm hG hr (k := 1) (by decide)
  have m2 := rBm hG hr (k := 2) (by decide)
  have s0 := rBe0 hG hr (k := 0) (by decide)
  have s5 := rBe0 hG hr (k := 50) (by decide)
  have s4 := rBe4 hG hr (k := 4) (by decide)
  have s9 := rBe4 hG hr (k := 54) (by decide)
  have go : ∀ {C : zCT} {q n0 t0 t4 t5 t9 : zIV}, zMet zkdm vwCl zTW zKPr l C → zCV zkdm vwCl zTW RL code room_1.frames room_1.locals pc C → sCk C (Rs.length + 1) q rv n0 t0 t4 t5 t9 → -2147483648 ≤ q.1 → q.2 ≤ 2147483647 → q.1 ≤ sea ∧ sea ≤ q.2 → n0.1 ≤ rMn g 35 0 ∧ rMn g 35 0 ≤ n0.2 → t0.1 ≤ rSe g 35 0 ∧ rSe g 35 0 ≤ t0.2 → t4.1 ≤ rSe g 35 4 ∧ rSe g 35 4 ≤ t4.2 → t5.1 ≤ rSe g 35 50 ∧ rSe g 35 50 ≤ t5.2 → t9.1 ≤ rSe g 35 54 ∧ rSe g 35 54 ≤ t9.2 →
      W p l e room_1 s m #[Value.ref b] below meth c H locs cells slots Q (F0 m pc ls st) := by
    intro C q n0 t0 t4 t5 t9 hM hC ⟨c1, c2, c3, c4, c5, c6⟩ q1 q2 hq hn h0 h4 h5 h9
    refine lwRo (T := sTv g 35 ++ []) (As := sea :: Rs) X hM hC c1 c2 c3 (by simp only [List.all_cons, hiv, Bool.and_true, Bool.and_eq_true, decide_eq_true_eq]; exact ⟨q1, q2⟩) (zg_c hq.1 hq.2 hAs) ?_ c5 c6 hB hN hNR hH hG hqq R (by rw [c4]; exact sOv_ok (As := sea :: Rs) hG hr) hS hcs hl hcat hst k
    rw [List.append_nil]
    exact zg_c p5.1 u5 (zg_c hn.1 hn.2 (zg_c m1.1 m1.2 (zg_c m2.1 m2.2 (zg_c p6.1 u6 (zg_c h0.1 h0.2 (zg_c h4.1 h4.2 (zg_c h5.1 h5.2 (zg_c h9.1 h9.2 zg_n))))))))
  obtain ⟨M1, M2, M3, M4, M5, M6⟩ := hM
  obtain ⟨V1, V2, V3, V4, V5, V6⟩ := hC
  rcases (show sea < 0 ∨ sea = 0 ∨ sea = 1 ∨ 2 ≤ sea by omega) with hc | hc | hc | hc
  · exact go M3 V3 k3 (by decide) (by decide) ⟨hsea.1, by show sea ≤ -1; omega⟩ m0 s0 s4 s5 s9
  · by_cases hm : 0 < rMn g 35 0
    · obtain ⟨j3, j4⟩ := j1 hm
      exact go M1 V1 k1 (by decide) (by decide) ⟨by show 0 ≤ sea; omega, by show sea ≤ 0; omega⟩ ⟨by show 1 ≤ rMn g 35 0; omega, m0.2⟩ ⟨j3, s0.2⟩ ⟨j4, s4.2⟩ s5 s9
    · exact go M5 V5 k5 (by decide) (by decide) ⟨by show 0 ≤ sea; omega, by show sea ≤ 0; omega⟩ ⟨m0.1, by show rMn g 35 0 ≤ 0; omega⟩ s0 s4 s5 s9
  · by_cases hm : 1 < rMn g 35 0
    · obtain ⟨j3, j4⟩ := j2 hm
      exact go M2 V2 k2 (by decide) (by decide) ⟨by show 1 ≤ sea; omega, by show sea ≤ 1; omega⟩ ⟨by show 2 ≤ rMn g 35 0; omega, m0.2⟩ s0 s4 ⟨j3, s5.2⟩ ⟨j4, s9.2⟩
    · exact go M6 V6 k6 (by decide) (by decide) ⟨by show 1 ≤ sea; omega, by show sea ≤ 1; omega⟩ ⟨m0.1, by show rMn g 35 0 ≤ 1; omega⟩ s0 s4 s5 s9
  · exact go M4 V4 k4 (by decide) (by decide) ⟨by show 2 ≤ sea; omega, hsea.2⟩ m0 s0 s4 s5 s9
/-! calls of methods as functions -/
section LWY
variable {kds : List zKD} {cl : List vw_C} {nL : Nat} {R : Room} {args : Array Value} {cc : ByteArray} {TW Ts : List Cond} {own : String} {KP : zKPt} {tyf : (Nat → ClassId) → List (ClassId × FieldType)}
theorem lw_callY (hKP : zKPok cl tyf KP) (hg : zgoodW TW) {w0 : Cond} (hTs : Ts = w0 :: TW) {y : yY} {fr' lo' : Nat} {tags : List Nat} {B : yB} (hM : yMet kds cl TW KP l y fr' lo' tags B) (hnd : L.Nodup) (S : CallFix p m c cc nL s args Ts own) (hK : KP η D cy L Θ s) (hC : yCV kds cl TW own cc R.frames R.locals pc y fr' lo' tags) (hcs : cells ≤ R.cells ∧ slots ≤ R.slots)
    {vs : List yV} {st0 : List Value} {A : Nat → Prop} {Qr : yQt} (ht : vs.map Prod.fst = tags) (hA : ∀ a ∈ vs, yok Θ a) (hB : B Θ (vs.map Prod.snd) h Qr) (hH : zH η kds D cl cy L Θ h H) (hLA : ∀ q ∈ L, A q) (hS : va_S A s.heap H locs) (hq : ∀ q : Nat, q < s.heap.size → q ∉ L → H[q]? = s.heap[q]?) (hsz : ls.size = nL) (hcat : (rest.map (fun v => v.category)).sum ≤ 8) (hst : st0 = (vs.map (yvo η)).reverse ++ rest)
    (k : ∀ (a : yV) (h' : Nat → Nat → Int) (H1 : Heap) (locs1 : List Loc), Qr a h' → yok Θ a → zH η kds D cl cy L Θ h' H1 → H.size ≤ H1.size → (∀ q : Nat, q < H.size → q ∉ L → H1[q]? = H[q]?) → va_S A s.heap H1 locs1 → W p l e R s m args below meth c H1 locs1 cells slots Q (F0 m (pc + 3) ls ((if y.2.2.2.isNone = true then (none : Option Value) else some (yvo η a)).toList ++ rest))) :
    W p l e R s m args below meth c H locs cells slots Q (F0 m pc ls st0) := by
  subst hst
  have hr : va_Run p l e R s m args below meth c H locs cells slots 0 0 (F0 m pc ls ((vs.map (yvo η)).reverse ++ rest)) rest (yQ η kds D cl cy L Θ y.2.2.2.isNone Qr (vs.map (yvo η)).toArray) (fun q => q ∈ L) := by
    obtain ⟨idx, hd, m1, m2, m3, m4, m5, m6, m7, m8, m9, kk, ts, K, T, N', et, eK, eK0, eC⟩ := hC
    have hts : ∀ w ∈ TW, w.before args s = true := fun w hw => S.2.2.2.2 w (by rw [hTs]; exact List.mem_cons_of_mem _ hw)
    have hMM := hM η D cy L Θ h vs Qr hnd ht hA hB
    cases vs with
    | nil => rw [et] at ht; cases ht
    | cons r ea =>
      have hr1 : r.1 = kk + 100002 := by
        rw [et] at ht
        simp only [List.map_cons, List.cons.injEq] at ht
        exact ht.1
      obtain ⟨a1, Θa, ea1⟩ := y_ref (η := η) (hA r List.mem_cons_self) hr1
      obtain ⟨q0, hq0⟩ := zH_get hH Θa eK (by omega)
      rw [zE_o eK0] at hq0
      have hKa := (hKP.1 _ _ _ _ _ _ hK).1
      have hrec := va_recv hKa hH.1 eC hq0
      rw [List.map_cons, ea1] at hMM ⊢
      have hlen : ea.length = tags.length - 1 := by rw [← ht]; simp
      refine va_runV (C := y.1.cls) (n := tags.length - 1) (As := ea.map (yvo η)) (bytes := y.2.1) (maxL := y.2.2.1) (ret := y.2.2.2) S hMM ⟨callB_of _ S.2.2.2.2 (by rw [hTs]; exact z_good hg m5) rfl rfl rfl (hts _ m4) (hts _ m1) ⟨m6.1, m6.2, m7⟩ ⟨m8, m9⟩, hts _ m2, hts _ m3⟩ ⟨z_blind hKP, hrec, fun U hU hW => ⟨rfl, by rw [hU]; exact hH, ?_⟩⟩ rfl (by simpa using hlen) hsz (by simp) (by simpa using hcat) hd hcs
      exact hKP.2.1 _ _ _ _ _ s U hK hW (by rw [hU]; exact hS.1) (fun q h1 h2 => by rw [hU]; exact hq q h1 h2)
  intro T hT X
  obtain ⟨v, st₀, t, T', L', hh0, X', hL', e1, e2, ⟨v', a, h', hv, hv2, oa, oq, oH, oF⟩, stp⟩ := hr T hT X
  cases hv
  obtain ⟨f1, f2⟩ := oF
  rw [hh0] at f1 f2
  have hS1 : va_S A s.heap t.heap (locs ++ L') := by
    refine ⟨Nat.le_trans hS.1 f1, fun q hq1 hq2 => ?_, fun q hq1 => ?_⟩
    · rw [f2 q (Nat.lt_of_lt_of_le hq1 hS.1) (fun z => hq2 (hLA q z))]
      exact hS.2.1 q hq1 hq2
    · rcases List.mem_append.mp hq1 with h1 | h1
      · exact hS.2.2 q h1
      · exact hLA _ (hL' q h1)
  have w := k a h' t.heap (locs ++ L') oq oa oH f1 f2 hS1
  rw [← hv2] at w
  obtain ⟨t2, q1, q2⟩ := w T' e1 X'
  exact ⟨t2, stp t2 q1, q2⟩
end LWY
/-- what a function's contract says of one value -/
theorem yF_at {t n : Nat} {f : yFn} {Θ : Nat → Option Nat} {ys : List Int} {h h2 : yH} {v : Int} (e : f n ys h = some (v, h2)) : yF t f Θ ys h (fun a h' => a = (t, v) ∧ h' = h2) := ⟨n, v, h2, e, rfl, rfl⟩
def yvs1 (a : Nat) (t : Nat) (As : List Int) : List yV := (t, (a : Int)) :: As.map (fun x => (0, x))
theorem yvs1_ok {a kk : Nat} {As : List Int} (ha : Θ a = some kk) (hA : ∀ x ∈ As, -2147483648 ≤ x ∧ x ≤ 2147483647) : ∀ v ∈ yvs1 a (kk + 100002) As, yok Θ v := by
  intro v hv
  rcases List.mem_cons.mp hv with rfl | hv
  · unfold yok
    rw [if_neg (by simp only; omega)]
    refine ⟨by simp only; omega, ?_⟩
    simp only [Int.toNat_natCast]
    rw [ha]
    exact congrArg some (by omega)
  · obtain ⟨x, hx, rfl⟩ := List.mem_map.mp hv
    exact y_i (hA x hx).1 (hA x hx).2
theorem yvs1_vo {a kk : Nat} {As : List Int} : (yvs1 a (kk + 100002) As).map (yvo η) = .ref (η.1 a) :: As.map (fun x => .int (Int32.ofInt x)) := by
  unfold yvs1
  rw [List.map_cons, List.map_map]
  have e1 : yvo η (kk + 100002, (a : Int)) = .ref (η.1 a) := by
    show zdec η ((kk + 100000) + 2) ((a : Int)) = _
    rw [z_dr]
  rw [e1]
  rfl
theorem yvs1_snd {a t : Nat} {As : List Int} : (yvs1 a t As).map Prod.snd = (a : Int) :: As := by
  unfold yvs1
  rw [List.map_cons, List.map_map]
  congr 1
  exact List.map_id' As
theorem yvs1_fst {a t : Nat} {As : List Int} : (yvs1 a t As).map Prod.fst = t :: List.replicate As.length 0 := by
  unfold yvs1
  rw [List.map_cons, List.map_map]
  congr 1
  exact List.map_const'
/-- a call of the class, as a function -/
theorem lwCf {y : yY} {fr' lo' n : Nat} {f : yFn} {As : List Int} {v : Int} {h2 : yH} (X : lwX l p s m meth c b N xs D cy tb adK adV fv) (hM : yMet zkds vwCl zTW zKP l y fr' lo' (100065 :: List.replicate As.length 0) (yF 0 f)) (hC : yCV zkds vwCl zTW RL code room_1.frames room_1.locals pc y fr' lo' (100065 :: List.replicate As.length 0)) (hret : y.2.2.2.isNone = false) (hAs : ∀ x ∈ As, -2147483648 ≤ x ∧ x ≤ 2147483647)
    (hB : lwB s L M) (hN : nmC η adK L Θ h) (hH : zH η zkds D vwCl cy L Θ h H) (hG : zH ζ zkdm D vwCl cy M Ξ g H) (ea : η.1 1 = qa) (hf : f n (1 :: As) h = some (v, h2))
    (hS : va_S (fun q => s.heap.size ≤ q) s.heap H locs) (hcs : cells ≤ 600000 ∧ slots ≤ 7302250) (hl : lwL ls qa qr i b) (hcat : (rest.map (fun v => v.category)).sum ≤ 8) (hst : st = (As.map (fun x => (.int (Int32.ofInt x) : Value))).reverse ++ (.ref qa :: rest))
    (k : ∀ (H1 : Heap) (locs1 : List Loc), zH η zkds D vwCl cy L Θ h2 H1 → zH ζ zkdm D vwCl cy M Ξ g H1 → va_S (fun q => s.heap.size ≤ q) s.heap H1 locs1 → W p l e room_1 s m #[Value.ref b] below meth c H1 locs1 cells slots Q (F0 m (pc + 3) ls (.int (Int32.ofInt v) :: rest))) :
    W p l e room_1 s m #[Value.ref b] below meth c H locs cells slots Q (F0 m pc ls st) := by
  obtain ⟨C0, -, hKW, hZ⟩ := X
  obtain ⟨hLn, hMn, hLM, hLb, hMb⟩ := hB
  have hKP : zKP η D cy L Θ s := ⟨hKW, zST_of hN.2.1 hZ hLb hN.1⟩
  refine lw_callY (vs := yvs1 1 (63 + 100002) As) (Qr := fun a h' => a = (0, v) ∧ h' = h2) zkp_ok zTW_good rfl hM hLn (lw_S C0) hKP hC hcs yvs1_fst (yvs1_ok hN.2.2.2.1 hAs) (by rw [yvs1_snd]; exact yF_at hf) hH hLb hS (fun q h1 _ => hS.2.1 q h1 (Nat.not_le.mpr h1)) hl.1 hcat ?_ (fun a h' H1 locs1 hQ oa oH oz oq oS => ?_)
  · rw [hst, yvs1_vo, ea]
    simp
  · obtain ⟨rfl, rfl⟩ := hQ
    rw [hret]
    exact k H1 locs1 oH (zH_kept hG (fun q hq => oq q (zH_lt hG hq) (fun z => hLM q z hq))) oS
/-- a call of the reference, as a function -/
theorem lwRf {y : yY} {fr' lo' n : Nat} {f : yFn} {As : List Int} {v : Int} {g2 : yH} (X : lwX l p s m meth c b N xs D cy tb adK adV fv) (hM : yMet zkdm vwCl zTW zKPr l y fr' lo' (100037 :: List.replicate As.length 0) (yF 0 f)) (hC : yCV zkdm vwCl zTW RL code room_1.frames room_1.locals pc y fr' lo' (100037 :: List.replicate As.length 0)) (hret : y.2.2.2.isNone = false) (hAs : ∀ x ∈ As, -2147483648 ≤ x ∧ x ≤ 2147483647)
    (hB : lwB s L M) (hNR : nmR Ξ) (hH : zH η zkds D vwCl cy L Θ h H) (hG : zH ζ zkdm D vwCl cy M Ξ g H) (er : ζ.1 35 = qr) (hf : f n (35 :: As) g = some (v, g2))
    (hS : va_S (fun q => s.heap.size ≤ q) s.heap H locs) (hcs : cells ≤ 600000 ∧ slots ≤ 7302250) (hl : lwL ls qa qr i b) (hcat : (rest.map (fun v => v.category)).sum ≤ 8) (hst : st = (As.map (fun x => (.int (Int32.ofInt x) : Value))).reverse ++ (.ref qr :: rest))
    (k : ∀ (H1 : Heap) (locs1 : List Loc), zH η zkds D vwCl cy L Θ h H1 → zH ζ zkdm D vwCl cy M Ξ g2 H1 → va_S (fun q => s.heap.size ≤ q) s.heap H1 locs1 → W p l e room_1 s m #[Value.ref b] below meth c H1 locs1 cells slots Q (F0 m (pc + 3) ls (.int (Int32.ofInt v) :: rest))) :
    W p l e room_1 s m #[Value.ref b] below meth c H locs cells slots Q (F0 m pc ls st) := by
  obtain ⟨C0, -, hKW, hZ⟩ := X
  obtain ⟨hLn, hMn, hLM, hLb, hMb⟩ := hB
  refine lw_callY (vs := yvs1 35 (35 + 100002) As) (Qr := fun a h' => a = (0, v) ∧ h' = g2) zkpr_ok zTW_good rfl hM hMn (lw_S C0) (show zKPr ζ D cy M Ξ s from hKW) hC hcs yvs1_fst (yvs1_ok hNR.1 hAs) (by rw [yvs1_snd]; exact yF_at hf) hG hMb hS (fun q h1 _ => hS.2.1 q h1 (Nat.not_le.mpr h1)) hl.1 hcat ?_ (fun a h' H1 locs1 hQ oa oH oz oq oS => ?_)
  · rw [hst, yvs1_vo, er]
    simp
  · obtain ⟨rfl, rfl⟩ := hQ
    rw [hret]
    exact k H1 locs1 (zH_kept hH (fun q hq => oq q (zH_lt hH hq) (fun z => hLM q hq z))) oH oS
end LWG
