variable {η : zRn}
/-! findSoon: rows -/
section HWC
variable {D : va_G} {cy : Nat → ClassId} {L : List Nat} {Θ : Nat → Option Nat} {h : Nat → Nat → Int} {H H0 : Heap} {locs : List Loc}
variable {p : Program} {l : Launch} {e : Env} {R : Room} {s : State} {m : MethodId} {args : Array Value} {below : List Frame} {meth : Method} {c : Code} {Q : State → Prop}
variable {cc : ByteArray} {pc nL : Nat} {ls : Array Slot} {rest : List Value} {tys : List (ClassId × FieldType)} {Ts : List Cond} {own : String}
theorem hw_call {C : zCT} (hrun : zHrun η zkdm D vwCl cy L Θ (fun q => q ∈ L) H0 nL p l e R s m args below meth c pc C) {σ : List Int} (hE : zge σ C.2.2.1.2.1) (hA : ∀ a ∈ C.2.2.1.1, zga Θ σ a) (hV : zgv Θ h σ C.2.2.1.2.2.2.2.1) (hR : zgr σ C.2.2.1.2.2.2.2.2) (hH : zH η zkdm D vwCl cy L Θ h H) (hS : va_S (fun q => q ∈ L) H0 H locs) (hsz : ls.size = nL) (hcat : (rest.map (fun v => v.category)).sum ≤ 8)
    (k : ∀ (v : Option Value) (out : zAS) (ρ : List Int) (h' : Nat → Nat → Int) (H1 : Heap) (locs1 : List Loc), out ∈ C.2.2.2.1 → zge (σ ++ ρ) out.1 → v.toList = out.2.2.1.map (zvo η (σ ++ ρ)) → zgv Θ h' (σ ++ ρ) out.2.2.2.1 → zH η zkdm D vwCl cy L Θ h' H1 → (∀ a k j, Θ a = some k → zinE C.2.2.2.2 k j j = false → h' a j = h a j) → va_S (fun q => q ∈ L) H0 H1 locs1 → W p l e R s m args below meth c H1 locs1 0 0 Q (F0 m (pc + 3) ls (v.toList ++ rest))) :
    W p l e R s m args below meth c H locs 0 0 Q (F0 m pc ls ((C.2.2.1.1.map (zvo η σ)).reverse ++ rest)) := by
  have hr := hrun σ h H locs ls rest hE hA hV hR hH hS hsz hcat
  intro T hT X
  obtain ⟨v, st₀, t, T', L', hh0, X', hL', e1, e2, ⟨v', out, ρ, h', hv, ho, oE, oS, ov, oV, oR, oH, oX, oF⟩, stp⟩ := hr T hT X
  cases hv
  have hS1 : va_S (fun q => q ∈ L) H0 t.heap (locs ++ L') := by
    refine ⟨Nat.le_trans hS.1 (by rw [← hh0]; exact oF.1), fun q hq hA => ?_, fun q hq => ?_⟩
    · have hq' : q < st₀.heap.size := by rw [hh0]; exact Nat.lt_of_lt_of_le hq hS.1
      rw [oF.2 q hq' hA, hh0]
      exact hS.2.1 q hq hA
    · rcases List.mem_append.mp hq with hq | hq
      · exact hS.2.2 q hq
      · exact hL' q hq
  have w := k _ out ρ h' t.heap (locs ++ L') ho oE ov oV oH oX hS1
  obtain ⟨t2, q1, q2⟩ := w T' e1 X'
  exact ⟨t2, stp t2 q1, q2⟩
theorem hw_zast {kds : List zKD} {cl : List vw_C} (X : hCx D cl cy L p s m args c cc nL tys Ts own) {kk : Nat} {a : Nat} {K : zKD} {i x : Int32} (hΘ : Θ a = some kk) (hK : kds[kk]? = some K) (hKf : K.1 = 1 ∧ K.2.1 = 2) (hi : 0 ≤ i.toInt ∧ i.toInt < (K.2.2.1 : Int)) (hx : zok Θ (zty K i.toInt.toNat).1 x.toInt ∧ (zty K i.toInt.toNat).2.1 ≤ x.toInt ∧ x.toInt ≤ (zty K i.toInt.toNat).2.2) (hx1 : 0 ≤ x.toInt ∧ x.toInt ≤ 1) (hH : zH η kds D cl cy L Θ h H) (hS : va_S (fun q => q ∈ L) H0 H locs) (hdg : decode cc pc = .ok (.bastore, 1))
    (w : ∀ (H1 : Heap) (locs1 : List Loc), zH η kds D cl cy L Θ (zup h a i.toInt.toNat x.toInt) H1 → va_S (fun q => q ∈ L) H0 H1 locs1 → W p l e R s m args below meth c H1 locs1 0 0 Q (F0 m (pc + 1) ls rest)) : W p l e R s m args below meth c H locs 0 0 Q (F0 m pc ls (.int x :: .int i :: .ref (η.1 a) :: rest)) := by
  obtain ⟨hexec, hb, hml, hts, hown, hKa, hT, hnd⟩ := X
  obtain ⟨q0, hq⟩ := zH_get hH hΘ hK (by omega)
  have hq1 := hq
  rw [zE_i hKf.1, hKf.2] at hq1
  obtain ⟨v1, v2⟩ := z_vin (i := i) (n := K.2.2.1) hi.1 hi.2
  have hD : va_D (fun q => q ∈ L) ([] ++ va_pl L (zF η kds cy Θ h)) := z_D hnd (fun a ha => ha)
  refine va_zast hexec hb hKa hH.1 hD hS q0 2 hq1 hT.2.2.1 v1 hdg (fun H1 locs1 hP1 _ hS1 => ?_)
  refine w H1 locs1 ?_ hS1
  refine zH_put hH hD hΘ hK (by omega) (by omega) hx hq ?_
  rw [zE_i hKf.1, hKf.2]
  have ef : (fun j => Int32.ofInt (zup h a i.toInt.toNat x.toInt a j)) = upd (fun j => Int32.ofInt (h a j)) i.toInt.toNat x := by
    funext j
    unfold upd
    split
    · rename_i e
      subst e
      rw [zup_at, z_ofi]
    · rename_i e
      rw [zup_ne (fun q => e q.2)]
  rw [z_narz hx1.1 hx1.2] at hP1
  rw [ef, ← v2]
  exact hP1
theorem hw_zlen {kds : List zKD} {cl : List vw_C} (X : hCx D cl cy L p s m args c cc nL (tyW cy) Ts own) {kk : Nat} {a : Nat} {K : zKD} (hΘ : Θ a = some kk) (hK : kds[kk]? = some K) (hKf : K.1 = 1 ∧ K.2.1 = 2) {n : Int} (hn : (K.2.2.1 : Int) = n) (hH : zH η kds D cl cy L Θ h H) (hdg : decode cc pc = .ok (.arraylength, 1))
    (w : W p l e R s m args below meth c H locs 0 0 Q (F0 m (pc + 1) ls (.int (Int32.ofInt n) :: rest))) : W p l e R s m args below meth c H locs 0 0 Q (F0 m pc ls (.ref (η.1 a) :: rest)) := by
  obtain ⟨hexec, hb, hml, hts, hown, hKa, hT, hnd⟩ := X
  obtain ⟨q0, hq⟩ := zH_get hH hΘ hK (by omega)
  rw [zE_i hKf.1, hKf.2] at hq
  rw [← hn] at w
  exact va_alen (v := Int32.ofInt (K.2.2.1 : Int)) hexec hb hKa hH.1 q0 2 hq hT.2.2.1 Int32.ofInt_eq_ofNat.symm hdg w
theorem hw_beside (X : hCx D vwCl cy L p s m args c cc nL (tyW cy) zTW RX12) (hKW : KW D cy s) {a : Nat} (ha : Θ a = some 35) (hsz : ls.size = nL) (hf : 2 ≤ R.frames) (hlo : 46 ≤ R.locals) (hrest : (rest.map (fun v => v.category)).sum ≤ 8) (hH : zH η zkdm D vwCl cy L Θ h H) {w0 hh cc0 : Int} {d : Nat} (hd : d < 4) (hwd : h a 24 = w0) (hhd : h a 25 = hh) (hw : 1 ≤ w0 ∧ w0 ≤ 8) (hc : 0 ≤ cc0 ∧ cc0 ≤ 63) {idx : Nat} (hlk : Cond.methodLink RX12 idx yX12_beside ∈ zTW) (hdg : decode cc pc = .ok (.invokevirtual idx, 3))
    (w : W p l e R s m args below meth c H locs 0 0 Q (F0 m (pc + 3) ls (.int (Int32.ofInt (zbs4 w0 hh cc0 (d : Int))) :: rest))) : W p l e R s m args below meth c H locs 0 0 Q (F0 m pc ls (.int (Int32.ofInt (d : Int)) :: .int (Int32.ofInt cc0) :: .ref (η.1 a) :: rest)) := by
  obtain ⟨hexec, hb, hml, hts, hown, hKa, hT, hnd⟩ := X
  obtain ⟨q0, hq⟩ := zH_get hH ha zkm (by decide)
  rw [zE_o rfl] at hq
  have hrec := va_recv hKa hH.1 (show vwCl[12]? = some (RX12, TX12, 64) from rfl) hq
  refine pc_i (va_runV (C := RX12) (n := 2) (As := [.int (Int32.ofInt cc0), .int (Int32.ofInt (d : Int))]) (rest := rest) (bytes := cX12_beside) (maxL := 5) (ret := some .int) ⟨hexec, hb, hml, hown, hts⟩ (zS_beside l η D cy L Θ h a ha hnd w0 cc0 ⟨d, hd⟩ hwd hw hc) ⟨callB_of _ hts (z_good0 zwh_X12_beside.1.2.1) rfl rfl rfl (hts _ zwh_X12_beside.1.1) (hts _ hlk) ⟨zwh_X12_beside.1.2.2.1.1, zwh_X12_beside.1.2.2.1.2, zwh_X12_beside.1.2.2.2⟩ ⟨hf, hlo⟩, hts _ zwh_X12_beside.2.1, hts _ zwh_X12_beside.2.2⟩ ⟨zseeB, hrec, fun U hU hW => ⟨rfl, by rw [hU]; exact hH, hKW.warm hW⟩⟩ rfl rfl hsz rfl (by simpa using hrest) hdg ⟨Nat.zero_le _, Nat.zero_le _⟩) (fun r hr => ?_)
  rw [hr, hhd]
  exact w
end HWC
set_option maxHeartbeats 4000000 in
theorem zS_moved (l : Launch) (η : zRn) (D : va_G) (cy : Nat → ClassId) (L : List Nat) (Θ : Nat → Option Nat) (h : Nat → Nat → Int) (a : Nat) (ha : Θ a = some 35) (hnd : L.Nodup) (w hh cc0 : Int) (d : Nat) (hd : d ≤ 4) (hwd : h a 24 = w) (hhd : h a 25 = hh) (hw : 1 ≤ w ∧ w ≤ 8) (hc : 0 ≤ cc0 ∧ cc0 ≤ 63) : Met l yX12_moved (Cond.code yX12_moved cX12_moved 3 (some .int) :: zTW) ({ frames := 2, cells := 0, slots := 0, locals := 46 } : Room) (va_Pc [.ref (η.1 a), .int (Int32.ofInt cc0), .int (Int32.ofInt (d : Int))] (fun U : State => zH η zkdm D vwCl cy L Θ h U.heap ∧ KW D cy U)) (vp_Si (fun r => r = Int32.ofInt (zmv w hh cc0 (d : Int)))) 0 0 (fun _ => False) := by
  refine Met.ofW (cc := cX12_moved) (maxL := 3) (ret := (some .int)) (by decide +kernel) rfl ?_
  intro p e s m args below meth c s₁ B hml hv
  obtain ⟨rfl, hH, hKW⟩ := hv
  have hx := B.exec
  have hb := B.bytes
  have hr := B.returns
  have hts0 := atoms_spec (ws := Cond.code yX12_moved cX12_moved 3 (some .int) :: zTW) B.pre
  have hts : ∀ w ∈ zTW, w.before _ s = true := fun w hw => hts0 w (List.mem_cons_of_mem _ hw)
  have hown : s.vm.findClass RX12 = some m.cls := findClass_of_methodNamed B.named
  have hlocks := B.notSynchronized
  have hl := lv_entry ([.ref (η.1 a), .int (Int32.ofInt cc0), .int (Int32.ofInt (d : Int))]) (n := 3) (Nat.le_of_ble_eq_true rfl)
  rw [lg_entry_eq]
  generalize (lg_sl ([.ref (η.1 a), .int (Int32.ofInt cc0), .int (Int32.ofInt (d : Int))]) ++ List.replicate (3 - (lg_sl ([.ref (η.1 a), .int (Int32.ofInt cc0), .int (Int32.ofInt (d : Int))])).length) Slot.unset).toArray = ls at hl ⊢
  have hl : lv_has ls 3 [(0, .ref (η.1 a)), (1, .int (Int32.ofInt cc0)), (2, .int (Int32.ofInt (d : Int)))] := hl
  have hT := (zkpr_ok.1 η D cy L Θ s hKW).2
  have X : hCx D vwCl cy L p s m _ c cX12_moved 3 (tyW cy) zTW RX12 := ⟨hx, hb, hml, hts, hown, hKW.1, hT, hnd⟩
  refine lv_iload_n hx hb zu_X12_moved_0 rfl (lv_at hl 2 rfl) ?_
  refine lv_iconst (v := Int32.ofInt 4) hx hb zu_X12_moved_1 (by decide) ?_
  refine lv_icmp_ne (tgt := 9) hx hb zu_X12_moved_2 (by decide) (fun q => ?_) (fun q => ?_)
  · have hd4 : d < 4 := by
      rcases Nat.lt_or_ge d 4 with q2 | q2
      · exact q2
      · have : d = 4 := by omega
        subst this
        exact absurd rfl q
    refine lv_aload_n hx hb zu_X12_moved_9 rfl (lv_at hl 0 rfl) ?_
    refine lv_iload_n hx hb zu_X12_moved_10 rfl (lv_at hl 1 rfl) ?_
    refine lv_iload_n hx hb zu_X12_moved_11 rfl (lv_at hl 2 rfl) ?_
    refine hw_beside X hKW ha hl.1 (Nat.le_refl 2) (Nat.le_refl 46) (Nat.le_of_ble_eq_true rfl) hH hd4 hwd hhd hw hc zyt_382 zu_X12_moved_12 ?_
    have ez : zmv w hh cc0 (d : Int) = zbs4 w hh cc0 (d : Int) := by
      unfold zmv
      rw [if_neg (by omega)]
    exact W.iret hx hb hr (fun t ht hW => ⟨_, rfl, by rw [ez], ht⟩) (fun _ h => absurd h List.not_mem_nil) zu_X12_moved_15
  · have hd4 : d = 4 := by
      have q2 := congrArg Int32.toInt q
      rw [z_toi (by omega) (by omega), z_toi (by omega) (by omega)] at q2
      omega
    subst hd4
    refine lv_iload_n hx hb zu_X12_moved_5 rfl (lv_at hl 1 rfl) ?_
    refine lv_goto (tgt := 15) hx hb zu_X12_moved_6 (by decide) ?_
    exact W.iret hx hb hr (fun t ht hW => ⟨_, rfl, rfl, ht⟩) (fun _ h => absurd h List.not_mem_nil) zu_X12_moved_15
theorem hw_moved {D : va_G} {cy : Nat → ClassId} {L : List Nat} {Θ : Nat → Option Nat} {h : Nat → Nat → Int} {H : Heap} {locs : List Loc} {p : Program} {l : Launch} {e : Env} {R : Room} {s : State} {m : MethodId} {args : Array Value} {below : List Frame} {meth : Method} {c : Code} {Q : State → Prop} {cc : ByteArray} {pc nL : Nat} {ls : Array Slot} {rest : List Value} (X : hCx D vwCl cy L p s m args c cc nL (tyW cy) zTW RX12) (hKW : KW D cy s) {a : Nat} (ha : Θ a = some 35) (hsz : ls.size = nL) (hf : 3 ≤ R.frames) (hlo : 68 ≤ R.locals) (hrest : (rest.map (fun v => v.category)).sum ≤ 8) (hH : zH η zkdm D vwCl cy L Θ h H) {w0 hh cc0 : Int} {d : Nat} (hd : d ≤ 4) (hwd : h a 24 = w0) (hhd : h a 25 = hh) (hw : 1 ≤ w0 ∧ w0 ≤ 8) (hc : 0 ≤ cc0 ∧ cc0 ≤ 63) {idx : Nat} (hlk : Cond.methodLink RX12 idx yX12_moved ∈ zTW) (hdg : decode cc pc = .ok (.invokevirtual idx, 3))
    (w : W p l e R s m args below meth c H locs 0 0 Q (F0 m (pc + 3) ls (.int (Int32.ofInt (zmv w0 hh cc0 (d : Int))) :: rest))) : W p l e R s m args below meth c H locs 0 0 Q (F0 m pc ls (.int (Int32.ofInt (d : Int)) :: .int (Int32.ofInt cc0) :: .ref (η.1 a) :: rest)) := by
  obtain ⟨hexec, hb, hml, hts, hown, hKa, hT, hnd⟩ := X
  obtain ⟨q0, hq⟩ := zH_get hH ha zkm (by decide)
  rw [zE_o rfl] at hq
  have hrec := va_recv hKa hH.1 (show vwCl[12]? = some (RX12, TX12, 64) from rfl) hq
  refine pc_i (va_runV (C := RX12) (n := 2) (As := [.int (Int32.ofInt cc0), .int (Int32.ofInt (d : Int))]) (rest := rest) (bytes := cX12_moved) (maxL := 3) (ret := some .int) ⟨hexec, hb, hml, hown, hts⟩ (zS_moved l η D cy L Θ h a ha hnd w0 hh cc0 d hd hwd hhd hw hc) ⟨callB_of _ hts (z_good0 zwh_X12_moved.1.2.1) rfl rfl rfl (hts _ zwh_X12_moved.1.1) (hts _ hlk) ⟨zwh_X12_moved.1.2.2.1.1, zwh_X12_moved.1.2.2.1.2, zwh_X12_moved.1.2.2.2⟩ ⟨hf, hlo⟩, hts _ zwh_X12_moved.2.1, hts _ zwh_X12_moved.2.2⟩ ⟨zseeB, hrec, fun U hU hW => ⟨rfl, by rw [hU]; exact hH, hKW.warm hW⟩⟩ rfl rfl hsz rfl (by simpa using hrest) hdg ⟨Nat.zero_le _, Nat.zero_le _⟩) (fun r hr => ?_)
  rw [hr]
  exact w
theorem zyt_421 : Cond.methodLink RX12 421 yX12_moved ∈ zTW := zTin 1812 (by decide +kernel) rfl
theorem zty_may : zty zKM 52 = (29, 0, 2147483647) := by decide +kernel
theorem zty_well : zty zKM 53 = (30, 0, 2147483647) := by decide +kernel
theorem zty_rows : zty zKM 54 = (28, 0, 2147483647) := by decide +kernel
theorem zty_boatAt : zty zKM 30 = (12, 0, 2147483647) := by decide +kernel
theorem zfh_89 : zFok RX12 zTW vwCl (89, 12, 52, none) := ⟨RX12, TX12, 64, rfl, zx_12, by decide, zTin 1351 (by decide +kernel) rfl, fun _ h => by cases h⟩
theorem zfh_93 : zFok RX12 zTW vwCl (93, 12, 53, none) := ⟨RX12, TX12, 64, rfl, zx_12, by decide, zTin 1352 (by decide +kernel) rfl, fun _ h => by cases h⟩
theorem zfh_96 : zFok RX12 zTW vwCl (96, 12, 54, none) := ⟨RX12, TX12, 64, rfl, zx_12, by decide, zTin 1353 (by decide +kernel) rfl, fun _ h => by cases h⟩
theorem zfh_41 : zFok RX12 zTW vwCl (41, 12, 30, none) := ⟨RX12, TX12, 64, rfl, zx_12, by decide, zTin 1329 (by decide +kernel) rfl, fun _ h => by cases h⟩
abbrev zK_may : zKD := (1, 2, 1984, [(0, 0, 1)])
theorem zkk_may : zkdm[27]? = some zK_may := rfl
abbrev zK_well : zKD := (1, 2, 1984, [(0, 0, 1)])
theorem zkk_well : zkdm[28]? = some zK_well := rfl
abbrev zK_rows : zKD := (1, 0, 30, [(0, (-2147483648), 2147483647)])
theorem zkk_rows : zkdm[26]? = some zK_rows := rfl
abbrev zK_boatAt : zKD := (1, 0, 6, [(0, 0, 63)])
theorem zkk_boatAt : zkdm[10]? = some zK_boatAt := rfl
theorem zup_slf {h : Nat → Nat → Int} {b k : Nat} {x : Int} : zup h b k x b = fun i => if i = k then x else h b i := by
  funext i
  by_cases q : i = k
  · subst q
    rw [zup_at, if_pos rfl]
  · rw [zup_ne (fun r => q r.2), if_neg q]
theorem z_ix {t c : Nat} (ht : t ≤ 31) (hc : c < 64) : Int32.ofInt 64 * Int32.ofInt (t : Int) + Int32.ofInt (c : Int) = Int32.ofInt ((64 * t + c : Nat) : Int) := by
  rw [z_mli (by omega) (by omega), z_adi (by omega) (by omega) (by omega)]
  congr 1
theorem z_inc1 {t : Nat} (ht : t ≤ 100000) : Int32.ofInt (t : Int) + Int32.ofInt 1 = Int32.ofInt ((t + 1 : Nat) : Int) := by
  rw [z_adi (by omega) (by omega) (by omega)]
  congr 1
/-- where one can be after some hours -/
def zRch (w hh c0 : Int) : Nat → Int → Prop
  | 0, c => c = c0
  | t + 1, c' => ∃ c d : Nat, (c : Int) < w * hh ∧ d ≤ 4 ∧ zRch w hh c0 t (c : Int) ∧ zmv w hh (c : Int) (d : Int) = c'
def zMy (w hh c0 : Int) (f : Nat → Int) : Prop := ∀ t c : Nat, t ≤ 30 → c < 64 → f (64 * t + c) = 1 → zRch w hh c0 t (c : Int)
def zZr (f : Nat → Int) (r : Nat) : Prop := ∀ t c, t < r → c < 64 → f (64 * t + c) = 0
def zFd (w hh c0 : Int) (f : Nat → Int) (r : Nat) : Prop := ∃ c : Nat, c < 64 ∧ f (64 * r + c) = 1 ∧ zRch w hh c0 r (c : Int)
def zWl (w hh c0 : Int) (f : Nat → Int) (hr : Int) : Prop := (hr = -1 ∧ zZr f 31) ∨ ∃ T : Nat, T ≤ 30 ∧ hr = (T : Int) ∧ zZr f T ∧ zFd w hh c0 f T
def zSd (w hh : Int) (f : Nat → Int) (T r : Nat) : Prop := ∀ t c : Nat, r ≤ t → t < T → c < 64 → f (64 * t + c) = 1 → ∃ d : Nat, d ≤ 4 ∧ 0 ≤ zmv w hh (c : Int) (d : Int) ∧ f (64 * (t + 1) + (zmv w hh (c : Int) (d : Int)).toNat) = 1
def zCp (w hh : Int) (f : Nat → Int) (t c d : Nat) : Prop := ∀ x y : Nat, (x < c ∨ (x = c ∧ y < d)) → x < 64 → y ≤ 4 → 0 ≤ zmv w hh (x : Int) (y : Int) → f (64 * (t + 1) + (zmv w hh (x : Int) (y : Int)).toNat) = 1 → f (64 * t + x) = 1
def zIn (w hh c0 : Int) (f : Nat → Int) (T t c d : Nat) : Prop := zZr f t ∧ zSd w hh f T t ∧ zFd w hh c0 f (t + 1) ∧ zCp w hh f t c d
theorem z_mv63 {w hh c d : Int} (hw : 1 ≤ w ∧ w ≤ 8) (hh8 : hh ≤ 8) (hc : 0 ≤ c ∧ c ≤ 63) : zmv w hh c d = -1 ∨ (0 ≤ zmv w hh c d ∧ zmv w hh c d ≤ 63) := by
  unfold zmv
  split
  · exact Or.inr hc
  · rcases z_bs4 (c := c) (d := d) hw hh8 with q | q
    · exact Or.inl q
    · exact Or.inr ⟨q.1, q.2.2⟩
theorem zMy_up {w hh c0 : Int} {f : Nat → Int} {t c : Nat} (g : zMy w hh c0 f) (hc : c < 64) (hr : zRch w hh c0 t (c : Int)) : zMy w hh c0 (fun i => if i = 64 * t + c then 1 else f i) := by
  intro t2 c2 h1 h2 e
  by_cases q : 64 * t2 + c2 = 64 * t + c
  · have q1 : t2 = t := by omega
    have q2 : c2 = c := by omega
    subst q1 q2
    exact hr
  · simp only [if_neg q] at e
    exact g t2 c2 h1 h2 e
theorem zWl_hit {w hh c0 : Int} {f : Nat → Int} {t c : Nat} {hr : Int} (g : zWl w hh c0 f hr) (ht : hr = -1 ∨ hr = (t : Int)) (h30 : t ≤ 30) (hc : c < 64) (hR : zRch w hh c0 t (c : Int)) : zWl w hh c0 (fun i => if i = 64 * t + c then 1 else f i) (t : Int) := by
  refine Or.inr ⟨t, h30, rfl, fun t2 c2 h1 h2 => ?_, c, hc, if_pos rfl, hR⟩
  have q : ¬ 64 * t2 + c2 = 64 * t + c := by omega
  simp only [if_neg q]
  rcases g with ⟨-, g⟩ | ⟨T, h3, h4, g, -⟩
  · exact g t2 c2 (by omega) h2
  · have : T = t := by omega
    subst this
    exact g t2 c2 h1 h2
theorem zIn_start {w hh c0 : Int} {f : Nat → Int} {T t : Nat} (h1 : zZr f (t + 1)) (h2 : zSd w hh f T (t + 1)) (h3 : zFd w hh c0 f (t + 1)) : zIn w hh c0 f T t 0 0 := by
  refine ⟨fun t2 c2 a b => h1 t2 c2 (by omega) b, fun t2 c2 a b c e => ?_, h3, fun x y q => by omega⟩
  rcases Nat.lt_or_ge t t2 with q | q
  · exact h2 t2 c2 q b c e
  · have : t2 = t := by omega
    subst this
    have := h1 t2 c2 (by omega) c
    omega
theorem zIn_c {w hh c0 : Int} {f : Nat → Int} {T t c : Nat} (g : zIn w hh c0 f T t c 5) : zIn w hh c0 f T t (c + 1) 0 := by
  refine ⟨g.1, g.2.1, g.2.2.1, fun x y q h1 h2 h3 h4 => g.2.2.2 x y ?_ h1 h2 h3 h4⟩
  omega
theorem zIn_end {w hh c0 : Int} {f : Nat → Int} {T t c : Nat} (hc : w * hh ≤ (c : Int)) (h64 : w * hh ≤ 64) (g : zIn w hh c0 f T t c 0) : zZr f t ∧ zSd w hh f T t ∧ zFd w hh c0 f t := by
  refine ⟨g.1, g.2.1, ?_⟩
  obtain ⟨x, x1, x2, x3⟩ := g.2.2.1
  obtain ⟨cc, d, y1, y2, y3, y4⟩ := x3
  refine ⟨cc, by omega, g.2.2.2 cc d (Or.inl (by omega)) (by omega) y2 (by omega) ?_, y3⟩
  rw [y4]
  exact x2
theorem zIn_step {w hh c0 : Int} {f : Nat → Int} {T t c d : Nat} {v : Int} (g : zIn w hh c0 f T t c d) (hc : c < 64) (hd : d ≤ 4) (hv : (v = 1 ∧ (f (64 * t + c) = 1 ∨ (0 ≤ zmv w hh (c : Int) (d : Int) ∧ f (64 * (t + 1) + (zmv w hh (c : Int) (d : Int)).toNat) = 1))) ∨ (v = 0 ∧ f (64 * t + c) ≠ 1 ∧ ¬ (0 ≤ zmv w hh (c : Int) (d : Int) ∧ f (64 * (t + 1) + (zmv w hh (c : Int) (d : Int)).toNat) = 1))) : zIn w hh c0 (fun i => if i = 64 * t + c then v else f i) T t c (d + 1) := by
  obtain ⟨g1, g2, g3, g4⟩ := g
  refine ⟨fun t2 c2 a b => ?_, fun t2 c2 a b e1 e2 => ?_, ?_, fun x y q h1 h2 h3 h4 => ?_⟩
  · have q : ¬ 64 * t2 + c2 = 64 * t + c := by omega
    simp only [if_neg q]
    exact g1 t2 c2 a b
  · by_cases q : 64 * t2 + c2 = 64 * t + c
    · have q1 : t2 = t := by omega
      have q2 : c2 = c := by omega
      subst q1 q2
      simp only [if_pos] at e2
      rcases hv with ⟨-, hv | hv⟩ | hv
      · obtain ⟨d2, r1, r2, r3⟩ := g2 t2 c2 (Nat.le_refl _) b e1 hv
        refine ⟨d2, r1, r2, ?_⟩
        have q3 : ¬ 64 * (t2 + 1) + (zmv w hh (c2 : Int) (d2 : Int)).toNat = 64 * t2 + c2 := by omega
        simp only [if_neg q3]
        exact r3
      · refine ⟨d, hd, hv.1, ?_⟩
        have q3 : ¬ 64 * (t2 + 1) + (zmv w hh (c2 : Int) (d : Int)).toNat = 64 * t2 + c2 := by omega
        simp only [if_neg q3]
        exact hv.2
      · omega
    · simp only [if_neg q] at e2
      obtain ⟨d2, r1, r2, r3⟩ := g2 t2 c2 a b e1 e2
      refine ⟨d2, r1, r2, ?_⟩
      have q3 : ¬ 64 * (t2 + 1) + (zmv w hh (c2 : Int) (d2 : Int)).toNat = 64 * t + c := by omega
      simp only [if_neg q3]
      exact r3
  · obtain ⟨x, x1, x2, x3⟩ := g3
    refine ⟨x, x1, ?_, x3⟩
    have q : ¬ 64 * (t + 1) + x = 64 * t + c := by omega
    simp only [if_neg q]
    exact x2
  · have q3 : ¬ 64 * (t + 1) + (zmv w hh (x : Int) (y : Int)).toNat = 64 * t + c := by omega
    simp only [if_neg q3] at h4
    by_cases q2 : x = c
    · subst q2
      simp only [if_pos]
      rcases hv with ⟨hv, -⟩ | ⟨-, hv1, hv2⟩
      · exact hv
      · exfalso
        rcases Nat.lt_or_ge y d with r | r
        · exact hv1 (g4 x y (Or.inr ⟨rfl, r⟩) h1 h2 h3 h4)
        · have : y = d := by omega
          subst this
          exact hv2 ⟨h3, h4⟩
    · have q4 : ¬ 64 * t + x = 64 * t + c := by omega
      simp only [if_neg q4]
      exact g4 x y (Or.inl (by omega)) h1 h2 h3 h4
def zFR (Θ : Nat → Option Nat) (h h2 : Nat → Nat → Int) (bo : Nat) : Prop := (∀ x k j, Θ x = some k → zinE [(10, 0, 5), (13, 0, 5), (26, 0, 29), (27, 0, 1983), (28, 0, 1983)] k j j = false → h2 x j = h x j) ∧ ∀ j, j < 6 → h2 bo j = h bo j
def zFC (Θ : Nat → Option Nat) (h : Nat → Nat → Int) (a ma we bo ro : Nat) (w hh : Int) : Prop := Θ a = some 35 ∧ Θ ma = some 27 ∧ Θ we = some 28 ∧ Θ bo = some 10 ∧ Θ ro = some 26 ∧ h a 52 = (ma : Int) ∧ h a 53 = (we : Int) ∧ h a 30 = (bo : Int) ∧ h a 54 = (ro : Int) ∧ h a 24 = w ∧ h a 25 = hh ∧ (2 ≤ w ∧ w ≤ 8) ∧ (0 ≤ hh ∧ hh ≤ 8) ∧ 0 ≤ h a 23 ∧ h a 23 ≤ 1
def zFB (η : zRn) (D : va_G) (cy : Nat → ClassId) (L : List Nat) (Θ : Nat → Option Nat) (h : Nat → Nat → Int) (a ma we bo ro : Nat) (w hh : Int) (H0 : Heap) (h2 : Nat → Nat → Int) (H : Heap) (locs : List Loc) : Prop :=
  zFR Θ h h2 bo ∧ zFC Θ h2 a ma we bo ro w hh ∧ zH η zkdm D vwCl cy L Θ h2 H ∧ va_S (fun q => q ∈ L) H0 H locs
theorem zFB_up {D : va_G} {cy : Nat → ClassId} {L : List Nat} {Θ : Nat → Option Nat} {h : Nat → Nat → Int} {a ma we bo ro : Nat} {w hh : Int} {H0 : Heap} {h2 : Nat → Nat → Int} {H H1 : Heap} {locs locs1 : List Loc} (g : zFB η D cy L Θ h a ma we bo ro w hh H0 h2 H locs) {x k j : Nat} {v : Int} (hx : Θ x = some k) (hk : (k = 26 ∧ j < 30) ∨ (k = 27 ∧ j < 1984) ∨ (k = 28 ∧ j < 1984)) (h1 : zH η zkdm D vwCl cy L Θ (zup h2 x j v) H1) (hS : va_S (fun q => q ∈ L) H0 H1 locs1) : zFB η D cy L Θ h a ma we bo ro w hh H0 (zup h2 x j v) H1 locs1 := by
  obtain ⟨⟨g1, g2⟩, ⟨ha, hma, hwe, hbo, hro, c1, c2, c3, c4, c5, c6, c7, c8, c9⟩, -, -⟩ := g
  have hax : a ≠ x := by
    rintro rfl
    rw [ha] at hx
    cases hx
    omega
  have hbx : bo ≠ x := by
    rintro rfl
    rw [hbo] at hx
    cases hx
    omega
  refine ⟨⟨fun y k' i hy hi => ?_, fun i hi => ?_⟩, ⟨ha, hma, hwe, hbo, hro, ?_⟩, h1, hS⟩
  · by_cases q : y = x ∧ i = j
    · obtain ⟨rfl, rfl⟩ := q
      cases hx.symm.trans hy
      exfalso
      have : zinE [(10, 0, 5), (13, 0, 5), (26, 0, 29), (27, 0, 1983), (28, 0, 1983)] k i i = true := by
        rcases hk with ⟨rfl, q⟩ | ⟨rfl, q⟩ | ⟨rfl, q⟩ <;> simp [zinE] <;> omega
      rw [this] at hi
      cases hi
    · rw [zup_ne q]
      exact g1 y k' i hy hi
  · rw [zup_row hbx]
    exact g2 i hi
  · rw [zup_row hax]
    exact ⟨c1, c2, c3, c4, c5, c6, c7, c8, c9⟩
theorem zFB_call {D : va_G} {cy : Nat → ClassId} {L : List Nat} {Θ : Nat → Option Nat} {h : Nat → Nat → Int} {a ma we bo ro : Nat} {w hh : Int} {H0 : Heap} {h2 h3 : Nat → Nat → Int} {H H1 : Heap} {locs locs1 : List Loc} (g : zFB η D cy L Θ h a ma we bo ro w hh H0 h2 H locs) {E : List (Nat × Nat × Nat)} (hE : E.all (fun e => zinE [(10, 0, 5), (13, 0, 5), (26, 0, 29), (27, 0, 1983), (28, 0, 1983)] e.1 e.2.1 e.2.2) = true) (hE35 : ∀ j, zinE E 35 j j = false) (hX : ∀ a k j, Θ a = some k → zinE E k j j = false → h3 a j = h2 a j) (hb : ∀ j, j < 6 → h3 bo j = h2 bo j) (h1 : zH η zkdm D vwCl cy L Θ h3 H1) (hS : va_S (fun q => q ∈ L) H0 H1 locs1) : zFB η D cy L Θ h a ma we bo ro w hh H0 h3 H1 locs1 := by
  obtain ⟨⟨g1, g2⟩, ⟨ha, hma, hwe, hbo, hro, c⟩, -, -⟩ := g
  refine ⟨⟨fun y k' i hy hi => ?_, fun i hi => ?_⟩, ⟨ha, hma, hwe, hbo, hro, ?_⟩, h1, hS⟩
  · rw [hX y k' i hy (z_inc hE hi)]
    exact g1 y k' i hy hi
  · rw [hb i hi]
    exact g2 i hi
  · rw [hX a 35 52 ha (hE35 _), hX a 35 53 ha (hE35 _), hX a 35 30 ha (hE35 _), hX a 35 54 ha (hE35 _), hX a 35 24 ha (hE35 _), hX a 35 25 ha (hE35 _), hX a 35 23 ha (hE35 _)]
    exact c
theorem z_bit {D : va_G} {cy : Nat → ClassId} {L : List Nat} {Θ : Nat → Option Nat} {h : Nat → Nat → Int} {H : Heap} (hH : zH η zkdm D vwCl cy L Θ h H) {b : Nat} (hb : Θ b = some 27 ∨ Θ b = some 28) {j : Nat} (hj : j < 1984) : h b j = 0 ∨ h b j = 1 := by
  rcases hb with hb | hb
  · have h1 := zH_in hH hb zkk_may (j := j) hj
    have e1 : zty zK_may j = (0, 0, 1) := by unfold zty; simp [Nat.mod_one]
    rw [e1] at h1
    have := h1.2
    simp only at this
    omega
  · have h1 := zH_in hH hb zkk_well (j := j) hj
    have e1 : zty zK_well j = (0, 0, 1) := by unfold zty; simp [Nat.mod_one]
    rw [e1] at h1
    have := h1.2
    simp only at this
    omega
theorem hw_fmay {D : va_G} {cy : Nat → ClassId} {L : List Nat} {Θ : Nat → Option Nat} {h : Nat → Nat → Int} {a ma we bo ro : Nat} {w0 hh : Int} {H0 : Heap} {h2 : Nat → Nat → Int} {H : Heap} {locs : List Loc} {p : Program} {l : Launch} {e : Env} {R : Room} {s : State} {m : MethodId} {args : Array Value} {below : List Frame} {meth : Method} {c : Code} {Q : State → Prop} {cc : ByteArray} {pc nL : Nat} {ls : Array Slot} {rest : List Value} (X : hCx D vwCl cy L p s m args c cc nL (tyW cy) zTW RX12) (g : zFB η D cy L Θ h a ma we bo ro w0 hh H0 h2 H locs) (hdg : decode cc pc = .ok (.getfield 89, 3)) (w : W p l e R s m args below meth c H locs 0 0 Q (F0 m (pc + 3) ls (.ref (η.1 ma) :: rest))) : W p l e R s m args below meth c H locs 0 0 Q (F0 m pc ls (.ref (η.1 a) :: rest)) := by
  obtain ⟨gR, ⟨ha, hma, hwe, hbo, hro, f52, f53, f30, f54, f24, f25, hw, hhh, hsea⟩, hH, hS⟩ := g
  refine hw_get X zfh_89 ha zkm ⟨rfl, rfl⟩ (by decide) hH hdg ?_
  rw [zty_may, f52]
  simp only
  rw [z_dr 27 ma]
  exact w
theorem hw_fwell {D : va_G} {cy : Nat → ClassId} {L : List Nat} {Θ : Nat → Option Nat} {h : Nat → Nat → Int} {a ma we bo ro : Nat} {w0 hh : Int} {H0 : Heap} {h2 : Nat → Nat → Int} {H : Heap} {locs : List Loc} {p : Program} {l : Launch} {e : Env} {R : Room} {s : State} {m : MethodId} {args : Array Value} {below : List Frame} {meth : Method} {c : Code} {Q : State → Prop} {cc : ByteArray} {pc nL : Nat} {ls : Array Slot} {rest : List Value} (X : hCx D vwCl cy L p s m args c cc nL (tyW cy) zTW RX12) (g : zFB η D cy L Θ h a ma we bo ro w0 hh H0 h2 H locs) (hdg : decode cc pc = .ok (.getfield 93, 3)) (w : W p l e R s m args below meth c H locs 0 0 Q (F0 m (pc + 3) ls (.ref (η.1 we) :: rest))) : W p l e R s m args below meth c H locs 0 0 Q (F0 m pc ls (.ref (η.1 a) :: rest)) := by
  obtain ⟨gR, ⟨ha, hma, hwe, hbo, hro, f52, f53, f30, f54, f24, f25, hw, hhh, hsea⟩, hH, hS⟩ := g
  refine hw_get X zfh_93 ha zkm ⟨rfl, rfl⟩ (by decide) hH hdg ?_
  rw [zty_well, f53]
  simp only
  rw [z_dr 28 we]
  exact w
theorem hw_frows {D : va_G} {cy : Nat → ClassId} {L : List Nat} {Θ : Nat → Option Nat} {h : Nat → Nat → Int} {a ma we bo ro : Nat} {w0 hh : Int} {H0 : Heap} {h2 : Nat → Nat → Int} {H : Heap} {locs : List Loc} {p : Program} {l : Launch} {e : Env} {R : Room} {s : State} {m : MethodId} {args : Array Value} {below : List Frame} {meth : Method} {c : Code} {Q : State → Prop} {cc : ByteArray} {pc nL : Nat} {ls : Array Slot} {rest : List Value} (X : hCx D vwCl cy L p s m args c cc nL (tyW cy) zTW RX12) (g : zFB η D cy L Θ h a ma we bo ro w0 hh H0 h2 H locs) (hdg : decode cc pc = .ok (.getfield 96, 3)) (w : W p l e R s m args below meth c H locs 0 0 Q (F0 m (pc + 3) ls (.ref (η.1 ro) :: rest))) : W p l e R s m args below meth c H locs 0 0 Q (F0 m pc ls (.ref (η.1 a) :: rest)) := by
  obtain ⟨gR, ⟨ha, hma, hwe, hbo, hro, f52, f53, f30, f54, f24, f25, hw, hhh, hsea⟩, hH, hS⟩ := g
  refine hw_get X zfh_96 ha zkm ⟨rfl, rfl⟩ (by decide) hH hdg ?_
  rw [zty_rows, f54]
  simp only
  rw [z_dr 26 ro]
  exact w
theorem hw_fboatAt {D : va_G} {cy : Nat → ClassId} {L : List Nat} {Θ : Nat → Option Nat} {h : Nat → Nat → Int} {a ma we bo ro : Nat} {w0 hh : Int} {H0 : Heap} {h2 : Nat → Nat → Int} {H : Heap} {locs : List Loc} {p : Program} {l : Launch} {e : Env} {R : Room} {s : State} {m : MethodId} {args : Array Value} {below : List Frame} {meth : Method} {c : Code} {Q : State → Prop} {cc : ByteArray} {pc nL : Nat} {ls : Array Slot} {rest : List Value} (X : hCx D vwCl cy L p s m args c cc nL (tyW cy) zTW RX12) (g : zFB η D cy L Θ h a ma we bo ro w0 hh H0 h2 H locs) (hdg : decode cc pc = .ok (.getfield 41, 3)) (w : W p l e R s m args below meth c H locs 0 0 Q (F0 m (pc + 3) ls (.ref (η.1 bo) :: rest))) : W p l e R s m args below meth c H locs 0 0 Q (F0 m pc ls (.ref (η.1 a) :: rest)) := by
  obtain ⟨gR, ⟨ha, hma, hwe, hbo, hro, f52, f53, f30, f54, f24, f25, hw, hhh, hsea⟩, hH, hS⟩ := g
  refine hw_get X zfh_41 ha zkm ⟨rfl, rfl⟩ (by decide) hH hdg ?_
  rw [zty_boatAt, f30]
  simp only
  rw [z_dr 10 bo]
  exact w
theorem hw_fwide {D : va_G} {cy : Nat → ClassId} {L : List Nat} {Θ : Nat → Option Nat} {h : Nat → Nat → Int} {a ma we bo ro : Nat} {w0 hh : Int} {H0 : Heap} {h2 : Nat → Nat → Int} {H : Heap} {locs : List Loc} {p : Program} {l : Launch} {e : Env} {R : Room} {s : State} {m : MethodId} {args : Array Value} {below : List Frame} {meth : Method} {c : Code} {Q : State → Prop} {cc : ByteArray} {pc nL : Nat} {ls : Array Slot} {rest : List Value} (X : hCx D vwCl cy L p s m args c cc nL (tyW cy) zTW RX12) (g : zFB η D cy L Θ h a ma we bo ro w0 hh H0 h2 H locs) (hdg : decode cc pc = .ok (.getfield 289, 3)) (w : W p l e R s m args below meth c H locs 0 0 Q (F0 m (pc + 3) ls (.int (Int32.ofInt w0) :: rest))) : W p l e R s m args below meth c H locs 0 0 Q (F0 m pc ls (.ref (η.1 a) :: rest)) := by
  obtain ⟨gR, ⟨ha, hma, hwe, hbo, hro, f52, f53, f30, f54, f24, f25, hw, hhh, hsea⟩, hH, hS⟩ := g
  refine hw_get X zfh_289 ha zkm ⟨rfl, rfl⟩ (by decide) hH hdg ?_
  rw [zty_wide, f24]
  exact w
theorem hw_fhigh {D : va_G} {cy : Nat → ClassId} {L : List Nat} {Θ : Nat → Option Nat} {h : Nat → Nat → Int} {a ma we bo ro : Nat} {w0 hh : Int} {H0 : Heap} {h2 : Nat → Nat → Int} {H : Heap} {locs : List Loc} {p : Program} {l : Launch} {e : Env} {R : Room} {s : State} {m : MethodId} {args : Array Value} {below : List Frame} {meth : Method} {c : Code} {Q : State → Prop} {cc : ByteArray} {pc nL : Nat} {ls : Array Slot} {rest : List Value} (X : hCx D vwCl cy L p s m args c cc nL (tyW cy) zTW RX12) (g : zFB η D cy L Θ h a ma we bo ro w0 hh H0 h2 H locs) (hdg : decode cc pc = .ok (.getfield 292, 3)) (w : W p l e R s m args below meth c H locs 0 0 Q (F0 m (pc + 3) ls (.int (Int32.ofInt hh) :: rest))) : W p l e R s m args below meth c H locs 0 0 Q (F0 m pc ls (.ref (η.1 a) :: rest)) := by
  obtain ⟨gR, ⟨ha, hma, hwe, hbo, hro, f52, f53, f30, f54, f24, f25, hw, hhh, hsea⟩, hH, hS⟩ := g
  refine hw_get X zfh_292 ha zkm ⟨rfl, rfl⟩ (by decide) hH hdg ?_
  rw [zty_high, f25]
  exact w
theorem zt_may (j : Nat) : zty zK_may j = (0, 0, 1) := by unfold zty; simp [Nat.mod_one]
theorem hw_ld_may {D : va_G} {cy : Nat → ClassId} {L : List Nat} {Θ : Nat → Option Nat} {h : Nat → Nat → Int} {a ma we bo ro : Nat} {w0 hh : Int} {H0 : Heap} {h2 : Nat → Nat → Int} {H : Heap} {locs : List Loc} {p : Program} {l : Launch} {e : Env} {R : Room} {s : State} {m : MethodId} {args : Array Value} {below : List Frame} {meth : Method} {c : Code} {Q : State → Prop} {cc : ByteArray} {pc nL : Nat} {ls : Array Slot} {rest : List Value} (X : hCx D vwCl cy L p s m args c cc nL (tyW cy) zTW RX12) (g : zFB η D cy L Θ h a ma we bo ro w0 hh H0 h2 H locs) {n : Nat} (hn : n < 1984) (hdg : decode cc pc = .ok (.baload, 1)) (w : W p l e R s m args below meth c H locs 0 0 Q (F0 m (pc + 1) ls (.int (Int32.ofInt (h2 ma n)) :: rest))) : W p l e R s m args below meth c H locs 0 0 Q (F0 m pc ls (.int (Int32.ofInt (n : Int)) :: .ref (η.1 ma) :: rest)) := by
  obtain ⟨gR, ⟨ha, hma, hwe, hbo, hro, f52, f53, f30, f54, f24, f25, hw, hhh, hsea⟩, hH, hS⟩ := g
  have ti : (Int32.ofInt (n : Int)).toInt = (n : Int) := z_toi (by omega) (by omega)
  refine hw_bald X hma zkk_may ⟨rfl, Or.inr rfl⟩ (by show _ ∧ _ < (1984 : Int); rw [ti]; omega) hH hdg ?_
  rw [ti, Int.toNat_natCast]
  exact w
theorem hw_st_may {D : va_G} {cy : Nat → ClassId} {L : List Nat} {Θ : Nat → Option Nat} {h : Nat → Nat → Int} {a ma we bo ro : Nat} {w0 hh : Int} {H0 : Heap} {h2 : Nat → Nat → Int} {H : Heap} {locs : List Loc} {p : Program} {l : Launch} {e : Env} {R : Room} {s : State} {m : MethodId} {args : Array Value} {below : List Frame} {meth : Method} {c : Code} {Q : State → Prop} {cc : ByteArray} {pc nL : Nat} {ls : Array Slot} {rest : List Value} (X : hCx D vwCl cy L p s m args c cc nL (tyW cy) zTW RX12) (g : zFB η D cy L Θ h a ma we bo ro w0 hh H0 h2 H locs) {n : Nat} {v : Int} (hn : n < 1984) (hv : v = 0 ∨ v = 1) (hdg : decode cc pc = .ok (.bastore, 1)) (w : ∀ (H1 : Heap) (locs1 : List Loc), zFB η D cy L Θ h a ma we bo ro w0 hh H0 (zup h2 ma n v) H1 locs1 → W p l e R s m args below meth c H1 locs1 0 0 Q (F0 m (pc + 1) ls rest)) : W p l e R s m args below meth c H locs 0 0 Q (F0 m pc ls (.int (Int32.ofInt v) :: .int (Int32.ofInt (n : Int)) :: .ref (η.1 ma) :: rest)) := by
  have g0 := g
  obtain ⟨gR, ⟨ha, hma, hwe, hbo, hro, f52, f53, f30, f54, f24, f25, hw, hhh, hsea⟩, hH, hS⟩ := g
  have ti : (Int32.ofInt (n : Int)).toInt = (n : Int) := z_toi (by omega) (by omega)
  have tv : (Int32.ofInt v).toInt = v := z_toi (by omega) (by omega)
  refine hw_zast X hma zkk_may ⟨rfl, rfl⟩ (by show _ ∧ _ < (1984 : Int); rw [ti]; omega) (by rw [zt_may, tv]; exact ⟨⟨by omega, by omega⟩, by show (0 : Int) ≤ v; omega, by show v ≤ (1 : Int); omega⟩) (by rw [tv]; omega) hH hS hdg (fun H1 locs1 hH1 hS1 => ?_)
  rw [ti, tv, Int.toNat_natCast] at hH1
  exact w H1 locs1 (zFB_up g0 hma (by omega) hH1 hS1)
theorem zt_well (j : Nat) : zty zK_well j = (0, 0, 1) := by unfold zty; simp [Nat.mod_one]
theorem hw_ld_well {D : va_G} {cy : Nat → ClassId} {L : List Nat} {Θ : Nat → Option Nat} {h : Nat → Nat → Int} {a ma we bo ro : Nat} {w0 hh : Int} {H0 : Heap} {h2 : Nat → Nat → Int} {H : Heap} {locs : List Loc} {p : Program} {l : Launch} {e : Env} {R : Room} {s : State} {m : MethodId} {args : Array Value} {below : List Frame} {meth : Method} {c : Code} {Q : State → Prop} {cc : ByteArray} {pc nL : Nat} {ls : Array Slot} {rest : List Value} (X : hCx D vwCl cy L p s m args c cc nL (tyW cy) zTW RX12) (g : zFB η D cy L Θ h a ma we bo ro w0 hh H0 h2 H locs) {n : Nat} (hn : n < 1984) (hdg : decode cc pc = .ok (.baload, 1)) (w : W p l e R s m args below meth c H locs 0 0 Q (F0 m (pc + 1) ls (.int (Int32.ofInt (h2 we n)) :: rest))) : W p l e R s m args below meth c H locs 0 0 Q (F0 m pc ls (.int (Int32.ofInt (n : Int)) :: .ref (η.1 we) :: rest)) := by
  obtain ⟨gR, ⟨ha, hma, hwe, hbo, hro, f52, f53, f30, f54, f24, f25, hw, hhh, hsea⟩, hH, hS⟩ := g
  have ti : (Int32.ofInt (n : Int)).toInt = (n : Int) := z_toi (by omega) (by omega)
  refine hw_bald X hwe zkk_well ⟨rfl, Or.inr rfl⟩ (by show _ ∧ _ < (1984 : Int); rw [ti]; omega) hH hdg ?_
  rw [ti, Int.toNat_natCast]
  exact w
theorem hw_st_well {D : va_G} {cy : Nat → ClassId} {L : List Nat} {Θ : Nat → Option Nat} {h : Nat → Nat → Int} {a ma we bo ro : Nat} {w0 hh : Int} {H0 : Heap} {h2 : Nat → Nat → Int} {H : Heap} {locs : List Loc} {p : Program} {l : Launch} {e : Env} {R : Room} {s : State} {m : MethodId} {args : Array Value} {below : List Frame} {meth : Method} {c : Code} {Q : State → Prop} {cc : ByteArray} {pc nL : Nat} {ls : Array Slot} {rest : List Value} (X : hCx D vwCl cy L p s m args c cc nL (tyW cy) zTW RX12) (g : zFB η D cy L Θ h a ma we bo ro w0 hh H0 h2 H locs) {n : Nat} {v : Int} (hn : n < 1984) (hv : v = 0 ∨ v = 1) (hdg : decode cc pc = .ok (.bastore, 1)) (w : ∀ (H1 : Heap) (locs1 : List Loc), zFB η D cy L Θ h a ma we bo ro w0 hh H0 (zup h2 we n v) H1 locs1 → W p l e R s m args below meth c H1 locs1 0 0 Q (F0 m (pc + 1) ls rest)) : W p l e R s m args below meth c H locs 0 0 Q (F0 m pc ls (.int (Int32.ofInt v) :: .int (Int32.ofInt (n : Int)) :: .ref (η.1 we) :: rest)) := by
  have g0 := g
  obtain ⟨gR, ⟨ha, hma, hwe, hbo, hro, f52, f53, f30, f54, f24, f25, hw, hhh, hsea⟩, hH, hS⟩ := g
  have ti : (Int32.ofInt (n : Int)).toInt = (n : Int) := z_toi (by omega) (by omega)
  have tv : (Int32.ofInt v).toInt = v := z_toi (by omega) (by omega)
  refine hw_zast X hwe zkk_well ⟨rfl, rfl⟩ (by show _ ∧ _ < (1984 : Int); rw [ti]; omega) (by rw [zt_well, tv]; exact ⟨⟨by omega, by omega⟩, by show (0 : Int) ≤ v; omega, by show v ≤ (1 : Int); omega⟩) (by rw [tv]; omega) hH hS hdg (fun H1 locs1 hH1 hS1 => ?_)
  rw [ti, tv, Int.toNat_natCast] at hH1
  exact w H1 locs1 (zFB_up g0 hwe (by omega) hH1 hS1)
