section
variable {η : zRn}
/-! findSoon: the hours; going back; the way -/
set_option maxHeartbeats 16000000 in
/-- driftAll, by its contract -/
theorem hw_da {p : Program} {l : Launch} {e : Env} {R : Room} {s : State} {m : MethodId} {args : Array Value} {below : List Frame} {meth : Method} {c : Code} {Q : State → Prop} {D : va_G} {cy : Nat → ClassId} {L : List Nat} {Θ : Nat → Option Nat} {H0 : Heap} (X : hCx D vwCl cy L p s m args c cX12_findSoon 8 (tyW cy) zTW RX12) {h : Nat → Nat → Int} {a ma we bo ro : Nat} {w0 hh : Int} {h2 : Nat → Nat → Int} {H : Heap} {locs : List Loc} {ls : Array Slot}
    (hda : zHrun η zkdm D vwCl cy L Θ (fun q => q ∈ L) H0 8 p l e R s m args below meth c 182 zk_X12_driftAll_0) (g : zFB η D cy L Θ h a ma we bo ro w0 hh H0 h2 H locs) (haM : (a : Int) ≤ 2147483647) (hsz : ls.size = 8)
    (k : ∀ (h3 : Nat → Nat → Int) (H3 : Heap) (locs3 : List Loc), zFB η D cy L Θ h a ma we bo ro w0 hh H0 h3 H3 locs3 → h3 ma = h2 ma → h3 we = h2 we → W p l e R s m args below meth c H3 locs3 0 0 Q (F0 m 185 ls [])) :
    W p l e R s m args below meth c H locs 0 0 Q (F0 m 182 ls [.ref (η.1 a)]) := by
  have g0 := g
  obtain ⟨gR, ⟨ha, hma, hwe, hbo, hro, f52, f53, f30, f54, f24, f25, hw, hhh, hsea⟩, hH, hS⟩ := g0
  let σ : List Int := [0, (a : Int), w0]
  have e1 : zvo η σ (37, 1, 0) = .ref (η.1 a) := by
    show zdec η (35 + 2) ((a : Int) + 0) = _
    rw [Int.add_zero]
    exact z_dr 35 a
  have est : (zk_X12_driftAll_0.2.2.1.1.map (zvo η σ)).reverse ++ [] = [.ref (η.1 a)] := by
    show (List.map (zvo η σ) [(37, 1, 0)]).reverse ++ [] = _
    simp only [List.map_cons, List.map_nil, e1]
    rfl
  rw [← est]
  have ga : zga Θ σ (37, 1, 0) := ⟨by show (1 : Nat) < 3; decide, by
    show zok Θ 37 ((a : Int) + 0)
    rw [Int.add_zero]
    exact Or.inr ⟨by omega, by rw [Int.toNat_natCast]; exact ha⟩⟩
  refine hw_call hda (σ := σ) (h := h2) ?_ (List.forall_mem_cons.mpr ⟨ga, List.forall_mem_nil _⟩) ?_ (fun _ q => absurd q List.not_mem_nil) hH hS hsz (Nat.le_of_ble_eq_true rfl) (fun v out ρ h3 H3 locs3 ho oE ov oV oH oX oS => ?_)
  · exact zge_c ⟨by decide, by decide⟩ (zge_c ⟨by simp only; omega, haM⟩ (zge_c hw zge_n))
  · refine List.forall_mem_cons.mpr ⟨⟨by show (1 : Nat) < 3; decide, ⟨by show (2 : Nat) < 3; decide, ?_⟩, ?_, ?_, ?_⟩, List.forall_mem_nil _⟩
    · show zok Θ 0 (w0 + 0)
      rw [Int.add_zero]
      exact zoki (by omega)
    · show (0 : Int) ≤ (a : Int)
      omega
    · show Θ (a : Int).toNat = some 35
      rw [Int.toNat_natCast]
      exact ha
    · show h2 (a : Int).toNat 24 = w0 + 0
      rw [Int.toNat_natCast, Int.add_zero]
      exact f24
  · have g3 := zFB_call g (E := [(13, 0, 5)]) (by decide) (fun j => by simp [zinE]) oX (fun j _ => oX bo 10 j hbo (by show zinE [(13, 0, 5)] 10 j j = false; simp [zinE])) oH oS
    have em : h3 ma = h2 ma := by
      funext j
      exact oX ma 27 j hma (by show zinE [(13, 0, 5)] 27 j j = false; simp [zinE])
    have ew : h3 we = h2 we := by
      funext j
      exact oX we 28 j hwe (by show zinE [(13, 0, 5)] 28 j j = false; simp [zinE])
    rcases List.mem_cons.mp ho with rfl | ho
    · have ev : v.toList = [] := ov
      rw [ev]
      exact k h3 H3 locs3 g3 em ew
    · cases ho
set_option maxHeartbeats 16000000 in
/-- the hours, going forward -/
theorem zfs_f {p : Program} {l : Launch} {e : Env} {R : Room} {s : State} {m : MethodId} {args : Array Value} {below : List Frame} {meth : Method} {c : Code} {Q : State → Prop} {D : va_G} {cy : Nat → ClassId} {L : List Nat} {Θ : Nat → Option Nat} {H0 : Heap} (X : hCx D vwCl cy L p s m args c cX12_findSoon 8 (tyW cy) zTW RX12) (hKW : KW D cy s) (hf : 6 ≤ R.frames) (hlo : 139 ≤ R.locals) {h : Nat → Nat → Int} {a ma we bo ro b0 sh : Nat} {w0 hh : Int} {c0 : Int} (hcf : zHrun η zkdm D vwCl cy L Θ (fun q => q ∈ L) H0 8 p l e R s m args below meth c 98 zk_X12_couldFrom_0) (haM : (a : Int) ≤ 2147483647) (hb5 : b0 ≤ 5) (hs5 : sh ≤ 5) (hda : zHrun η zkdm D vwCl cy L Θ (fun q => q ∈ L) H0 8 p l e R s m args below meth c 182 zk_X12_driftAll_0)
    (K : ∀ (hr : Int) (h2 : Nat → Nat → Int) (H : Heap) (locs : List Loc) (ls : Array Slot), zFB η D cy L Θ h a ma we bo ro w0 hh H0 h2 H locs → zWl w0 hh c0 (h2 we) hr → lv_has ls 8 [(3, .int (Int32.ofInt hr)), (2, .int (Int32.ofInt (sh : Int))), (1, .int (Int32.ofInt (b0 : Int))), (0, .ref (η.1 a))] → W p l e R s m args below meth c H locs 0 0 Q (F0 m 191 ls [])) :
    ∀ (f : Nat) (t : Nat) (hr : Int) (h2 : Nat → Nat → Int) (H : Heap) (locs : List Loc) (ls : Array Slot), 31 - t ≤ f → t ≤ 31 → zMy w0 hh c0 (h2 ma) → zWl w0 hh c0 (h2 we) hr → zFB η D cy L Θ h a ma we bo ro w0 hh H0 h2 H locs → lv_has ls 8 [(4, .int (Int32.ofInt (t : Int))), (3, .int (Int32.ofInt hr)), (2, .int (Int32.ofInt (sh : Int))), (1, .int (Int32.ofInt (b0 : Int))), (0, .ref (η.1 a))] → W p l e R s m args below meth c H locs 0 0 Q (F0 m 48 ls []) := by
  have hx := X.1
  have hb := X.2.1
  intro f
  induction f with
  | zero =>
    intro t hr h2 H locs ls hf2 ht hM hW g hl
    have hhr : -1 ≤ hr ∧ hr ≤ 30 := by
      rcases hW with ⟨q, -⟩ | ⟨T, q1, q2, -⟩ <;> omega
    refine lv_iload hx hb zu_X12_findSoon_48 (lv_at hl 0 rfl) ?_
    refine lv_bipush (v := Int32.ofInt 30) hx hb zu_X12_findSoon_50 (by decide) ?_
    refine lv_icmp_gt (tgt := 191) hx hb zu_X12_findSoon_52 (by decide) (fun _ => ?_) (fun hc => absurd ((z_lt32 (by omega) (by omega)).mpr (by omega)) hc)
    exact K hr h2 H locs ls g hW (lv_sub hl [1, 2, 3, 4] rfl)
  | succ f ih =>
    intro t hr h2 H locs ls hf2 ht hM hW g hl
    have hhr : -1 ≤ hr ∧ hr ≤ 30 := by
      rcases hW with ⟨q, -⟩ | ⟨T, q1, q2, -⟩ <;> omega
    refine lv_iload hx hb zu_X12_findSoon_48 (lv_at hl 0 rfl) ?_
    refine lv_bipush (v := Int32.ofInt 30) hx hb zu_X12_findSoon_50 (by decide) ?_
    refine lv_icmp_gt (tgt := 191) hx hb zu_X12_findSoon_52 (by decide) (fun _ => K hr h2 H locs ls g hW (lv_sub hl [1, 2, 3, 4] rfl)) (fun hc => ?_)
    have ht30 : t ≤ 30 := by
      apply Nat.not_lt.mp
      intro q
      exact hc ((z_lt32 (by omega) (by omega)).mpr (by omega))
    refine lv_iload_n hx hb zu_X12_findSoon_55 rfl (lv_at hl 1 rfl) ?_
    refine lv_iconst (v := Int32.ofInt (-1)) hx hb zu_X12_findSoon_56 (by decide) ?_
    refine lv_icmp_ne (tgt := 191) hx hb zu_X12_findSoon_57 (by decide) (fun _ => K hr h2 H locs ls g hW (lv_sub hl [1, 2, 3, 4] rfl)) (fun he => ?_)
    have he := (z_e32 (by omega) (by omega)).mp he
    refine lv_iconst (v := Int32.ofInt 0) hx hb zu_X12_findSoon_60 (by decide) ?_
    refine lv_istore (lv' := [(5, .int (Int32.ofInt ((0 : Nat) : Int))), (4, .int (Int32.ofInt (t : Int))), (3, .int (Int32.ofInt hr)), (2, .int (Int32.ofInt (sh : Int))), (1, .int (Int32.ofInt (b0 : Int))), (0, .ref (η.1 a))]) hx hb zu_X12_findSoon_61 hl (by decide) rfl (fun ls hl => ?_)
    refine zfs_c X hKW hf hlo t ht30 hcf haM hb5 hs5 (fun hr2 h3 H3 locs3 ls3 g3 hM3 hW3 ht3 hl3 => ?_) 64 0 hr h2 H locs ls (by omega) (by omega) hM hW (Or.inl he) g hl
    have hl := hl3
    refine lv_aload_n hx hb zu_X12_findSoon_181 rfl (lv_at hl 4 rfl) ?_
    refine hw_da X hda g3 haM hl.1 (fun h4 H4 locs4 g4 em ew => ?_)
    refine lv_iinc (lv' := [(4, .int (Int32.ofInt ((t + 1 : Nat) : Int))), (3, .int (Int32.ofInt hr2)), (2, .int (Int32.ofInt (sh : Int))), (1, .int (Int32.ofInt (b0 : Int))), (0, .ref (η.1 a))]) hx hb zu_X12_findSoon_185 hl (k := 0) rfl (z_inc1 (by omega)) (by decide) rfl (fun ls hl => ?_)
    refine lv_goto (tgt := 48) hx hb zu_X12_findSoon_188 (by decide) ?_
    exact ih (t + 1) hr2 h4 H4 locs4 ls (by omega) (by omega) (by rw [em]; exact hM3) (by rw [ew]; exact hW3) g4 hl
set_option maxHeartbeats 16000000 in
/-- the deeds of a cell, going back -/
theorem zfs_e {p : Program} {l : Launch} {e : Env} {R : Room} {s : State} {m : MethodId} {args : Array Value} {below : List Frame} {meth : Method} {c : Code} {Q : State → Prop} {D : va_G} {cy : Nat → ClassId} {L : List Nat} {Θ : Nat → Option Nat} {H0 : Heap} (X : hCx D vwCl cy L p s m args c cX12_findSoon 8 (tyW cy) zTW RX12) (hKW : KW D cy s) (hf : 6 ≤ R.frames) (hlo : 139 ≤ R.locals) {h : Nat → Nat → Int} {a ma we bo ro b0 sh : Nat} {w0 hh : Int} {c0 : Int} (T t cc0 : Nat) (hT : T ≤ 30) (ht : t < T) (hc64 : cc0 < 64)
    (K : ∀ (h2 : Nat → Nat → Int) (H : Heap) (locs : List Loc) (ls : Array Slot), zFB η D cy L Θ h a ma we bo ro w0 hh H0 h2 H locs → zIn w0 hh c0 (h2 we) T t cc0 5 → lv_has ls 8 [(5, .int (Int32.ofInt (cc0 : Int))), (4, .int (Int32.ofInt (t : Int))), (3, .int (Int32.ofInt (T : Int))), (2, .int (Int32.ofInt (sh : Int))), (1, .int (Int32.ofInt (b0 : Int))), (0, .ref (η.1 a))] → W p l e R s m args below meth c H locs 0 0 Q (F0 m 301 ls [])) :
    ∀ (f : Nat) (d : Nat) (h2 : Nat → Nat → Int) (H : Heap) (locs : List Loc) (ls : Array Slot), 5 - d ≤ f → d ≤ 5 → zIn w0 hh c0 (h2 we) T t cc0 d → zFB η D cy L Θ h a ma we bo ro w0 hh H0 h2 H locs → lv_has ls 8 [(6, .int (Int32.ofInt (d : Int))), (5, .int (Int32.ofInt (cc0 : Int))), (4, .int (Int32.ofInt (t : Int))), (3, .int (Int32.ofInt (T : Int))), (2, .int (Int32.ofInt (sh : Int))), (1, .int (Int32.ofInt (b0 : Int))), (0, .ref (η.1 a))] → W p l e R s m args below meth c H locs 0 0 Q (F0 m 221 ls []) := by
  have hx := X.1
  have hb := X.2.1
  intro f
  induction f with
  | zero =>
    intro d h2 H locs ls hf2 hd5 hI g hl
    refine lv_iload hx hb zu_X12_findSoon_221 (lv_at hl 0 rfl) ?_
    refine lv_iconst (v := Int32.ofInt 4) hx hb zu_X12_findSoon_223 (by decide) ?_
    refine lv_icmp_gt (tgt := 301) hx hb zu_X12_findSoon_224 (by decide) (fun _ => ?_) (fun hc => absurd ((z_lt32 (by omega) (by omega)).mpr (by omega)) hc)
    have : d = 5 := by omega
    subst this
    exact K h2 H locs ls g hI (lv_sub hl [1, 2, 3, 4, 5, 6] rfl)
  | succ f ih =>
    intro d h2 H locs ls hf2 hd5 hI g hl
    refine lv_iload hx hb zu_X12_findSoon_221 (lv_at hl 0 rfl) ?_
    refine lv_iconst (v := Int32.ofInt 4) hx hb zu_X12_findSoon_223 (by decide) ?_
    refine lv_icmp_gt (tgt := 301) hx hb zu_X12_findSoon_224 (by decide) (fun hc => ?_) (fun hc => ?_)
    · have hc := (z_lt32 (by omega) (by omega)).mp hc
      have : d = 5 := by omega
      subst this
      exact K h2 H locs ls g hI (lv_sub hl [1, 2, 3, 4, 5, 6] rfl)
    have hd4 : d ≤ 4 := by
      apply Nat.not_lt.mp
      intro q
      exact hc ((z_lt32 (by omega) (by omega)).mpr (by omega))
    have g0 := g
    obtain ⟨gR, ⟨ha, hma, hwe, hbo, hro, f52, f53, f30, f54, f24, f25, hw, hhh, hsea⟩, hH, hS⟩ := g0
    refine lv_aload_n hx hb zu_X12_findSoon_227 rfl (lv_at hl 6 rfl) ?_
    refine lv_iload hx hb zu_X12_findSoon_228 (lv_at hl 1 rfl) ?_
    refine lv_iload hx hb zu_X12_findSoon_230 (lv_at hl 0 rfl) ?_
    refine hw_moved X hKW ha hl.1 (by omega) (by omega) (Nat.le_of_ble_eq_true rfl) hH hd4 f24 f25 (by omega) (by omega) zyt_421 zu_X12_findSoon_232 ?_
    refine lv_istore (lv' := [(7, .int (Int32.ofInt (zmv w0 hh (cc0 : Int) (d : Int)))), (6, .int (Int32.ofInt (d : Int))), (5, .int (Int32.ofInt (cc0 : Int))), (4, .int (Int32.ofInt (t : Int))), (3, .int (Int32.ofInt (T : Int))), (2, .int (Int32.ofInt (sh : Int))), (1, .int (Int32.ofInt (b0 : Int))), (0, .ref (η.1 a))]) hx hb zu_X12_findSoon_235 hl (by decide) rfl (fun ls hl => ?_)
    have hmv := z_mv63 (w := w0) (hh := hh) (c := (cc0 : Int)) (d := (d : Int)) (by omega) hhh.2 (by omega)
    -- behind the choice
    have fin : ∀ v : Int, ((v = 1 ∧ (h2 we (64 * t + cc0) = 1 ∨ (0 ≤ zmv w0 hh (cc0 : Int) (d : Int) ∧ h2 we (64 * (t + 1) + (zmv w0 hh (cc0 : Int) (d : Int)).toNat) = 1))) ∨ (v = 0 ∧ h2 we (64 * t + cc0) ≠ 1 ∧ ¬ (0 ≤ zmv w0 hh (cc0 : Int) (d : Int) ∧ h2 we (64 * (t + 1) + (zmv w0 hh (cc0 : Int) (d : Int)).toNat) = 1))) → W p l e R s m args below meth c H locs 0 0 Q (F0 m 294 ls [.int (Int32.ofInt v), .int (Int32.ofInt ((64 * t + cc0 : Nat) : Int)), .ref (η.1 we)]) := by
      intro v hv
      refine hw_st_well X g (by omega) (by omega) zu_X12_findSoon_294 (fun H1 locs1 g1 => ?_)
      refine lv_iinc (lv' := [(6, .int (Int32.ofInt ((d + 1 : Nat) : Int))), (7, .int (Int32.ofInt (zmv w0 hh (cc0 : Int) (d : Int)))), (5, .int (Int32.ofInt (cc0 : Int))), (4, .int (Int32.ofInt (t : Int))), (3, .int (Int32.ofInt (T : Int))), (2, .int (Int32.ofInt (sh : Int))), (1, .int (Int32.ofInt (b0 : Int))), (0, .ref (η.1 a))]) hx hb zu_X12_findSoon_295 hl (k := 1) rfl (z_inc1 (by omega)) (by decide) rfl (fun ls hl => ?_)
      refine lv_goto (tgt := 221) hx hb zu_X12_findSoon_298 (by decide) ?_
      refine ih (d + 1) _ H1 locs1 ls (by omega) (by omega) ?_ g1 (lv_sub hl [0, 2, 3, 4, 5, 6, 7] rfl)
      rw [zup_slf]
      exact zIn_step hI hc64 hd4 hv
    have one : (h2 we (64 * t + cc0) = 1 ∨ (0 ≤ zmv w0 hh (cc0 : Int) (d : Int) ∧ h2 we (64 * (t + 1) + (zmv w0 hh (cc0 : Int) (d : Int)).toNat) = 1)) → W p l e R s m args below meth c H locs 0 0 Q (F0 m 289 ls [.int (Int32.ofInt ((64 * t + cc0 : Nat) : Int)), .ref (η.1 we)]) := by
      intro q
      refine lv_iconst (v := Int32.ofInt 1) hx hb zu_X12_findSoon_289 (by decide) ?_
      refine lv_goto (tgt := 294) hx hb zu_X12_findSoon_290 (by decide) ?_
      exact fin 1 (Or.inl ⟨rfl, q⟩)
    have nul : h2 we (64 * t + cc0) ≠ 1 → ¬ (0 ≤ zmv w0 hh (cc0 : Int) (d : Int) ∧ h2 we (64 * (t + 1) + (zmv w0 hh (cc0 : Int) (d : Int)).toNat) = 1) → W p l e R s m args below meth c H locs 0 0 Q (F0 m 293 ls [.int (Int32.ofInt ((64 * t + cc0 : Nat) : Int)), .ref (η.1 we)]) := by
      intro q1 q2
      refine lv_iconst (v := Int32.ofInt 0) hx hb zu_X12_findSoon_293 (by decide) ?_
      exact fin 0 (Or.inr ⟨rfl, q1, q2⟩)
    refine lv_aload_n hx hb zu_X12_findSoon_237 rfl (lv_at hl 7 rfl) ?_
    refine hw_fwell X g zu_X12_findSoon_238 ?_
    refine lv_bipush (v := Int32.ofInt 64) hx hb zu_X12_findSoon_241 (by decide) ?_
    refine lv_iload hx hb zu_X12_findSoon_243 (lv_at hl 3 rfl) ?_
    refine lv_imul hx hb zu_X12_findSoon_245 ?_
    refine lv_iload hx hb zu_X12_findSoon_246 (lv_at hl 2 rfl) ?_
    refine lv_iadd hx hb zu_X12_findSoon_248 ?_
    rw [z_ix (by omega) (by omega)]
    refine lv_aload_n hx hb zu_X12_findSoon_249 rfl (lv_at hl 7 rfl) ?_
    refine hw_fwell X g zu_X12_findSoon_250 ?_
    refine lv_bipush (v := Int32.ofInt 64) hx hb zu_X12_findSoon_253 (by decide) ?_
    refine lv_iload hx hb zu_X12_findSoon_255 (lv_at hl 3 rfl) ?_
    refine lv_imul hx hb zu_X12_findSoon_257 ?_
    refine lv_iload hx hb zu_X12_findSoon_258 (lv_at hl 2 rfl) ?_
    refine lv_iadd hx hb zu_X12_findSoon_260 ?_
    rw [z_ix (by omega) (by omega)]
    refine hw_ld_well X g (by omega) zu_X12_findSoon_261 ?_
    have hbit := z_bit hH (Or.inr hwe) (j := 64 * t + cc0) (by omega)
    refine lv_if_ne (tgt := 289) hx hb zu_X12_findSoon_262 (by decide) (fun q => ?_) (fun q => ?_)
    · refine one (Or.inl ?_)
      rcases hbit with q2 | q2
      · rw [q2] at q
        exact absurd rfl q
      · exact q2
    have hz : h2 we (64 * t + cc0) ≠ 1 := by
      intro q2
      rw [q2] at q
      exact absurd q (by decide)
    refine lv_iload hx hb zu_X12_findSoon_265 (lv_at hl 0 rfl) ?_
    refine lv_iconst (v := Int32.ofInt (-1)) hx hb zu_X12_findSoon_267 (by decide) ?_
    refine lv_icmp_eq (tgt := 293) hx hb zu_X12_findSoon_268 (by decide) (fun q => ?_) (fun q => ?_)
    · have q := (z_e32 (by omega) (by omega)).mp q
      exact nul hz (fun r => by omega)
    have q : ¬ zmv w0 hh (cc0 : Int) (d : Int) = -1 := fun r => q ((z_e32 (by omega) (by omega)).mpr r)
    obtain ⟨x, hx63, ex⟩ : ∃ x : Nat, x < 64 ∧ zmv w0 hh (cc0 : Int) (d : Int) = (x : Int) := ⟨(zmv w0 hh (cc0 : Int) (d : Int)).toNat, by omega, by omega⟩
    have ext : (zmv w0 hh (cc0 : Int) (d : Int)).toNat = x := by omega
    refine lv_aload_n hx hb zu_X12_findSoon_271 rfl (lv_at hl 7 rfl) ?_
    refine hw_fwell X g zu_X12_findSoon_272 ?_
    refine lv_bipush (v := Int32.ofInt 64) hx hb zu_X12_findSoon_275 (by decide) ?_
    refine lv_iload hx hb zu_X12_findSoon_277 (lv_at hl 3 rfl) ?_
    refine lv_iconst (v := Int32.ofInt 1) hx hb zu_X12_findSoon_279 (by decide) ?_
    refine lv_iadd hx hb zu_X12_findSoon_280 ?_
    rw [z_inc1 (by omega)]
    refine lv_imul hx hb zu_X12_findSoon_281 ?_
    refine lv_iload hx hb zu_X12_findSoon_282 (lv_at hl 0 rfl) ?_
    refine lv_iadd hx hb zu_X12_findSoon_284 ?_
    rw [ex, z_ix (by omega) hx63]
    refine hw_ld_well X g (by omega) zu_X12_findSoon_285 ?_
    have hbit2 := z_bit hH (Or.inr hwe) (j := 64 * (t + 1) + x) (by omega)
    refine lv_if_eq (tgt := 293) hx hb zu_X12_findSoon_286 (by decide) (fun q => ?_) (fun q => ?_)
    · refine nul hz (fun r => ?_)
      rw [ext] at r
      rw [r.2] at q
      exact absurd q (by decide)
    refine one (Or.inr ⟨by omega, ?_⟩)
    rw [ext]
    rcases hbit2 with q2 | q2
    · rw [q2] at q
      exact absurd rfl q
    · exact q2
set_option maxHeartbeats 16000000 in
/-- the cells of an hour, going back -/
theorem zfs_g {p : Program} {l : Launch} {e : Env} {R : Room} {s : State} {m : MethodId} {args : Array Value} {below : List Frame} {meth : Method} {c : Code} {Q : State → Prop} {D : va_G} {cy : Nat → ClassId} {L : List Nat} {Θ : Nat → Option Nat} {H0 : Heap} (X : hCx D vwCl cy L p s m args c cX12_findSoon 8 (tyW cy) zTW RX12) (hKW : KW D cy s) (hf : 6 ≤ R.frames) (hlo : 139 ≤ R.locals) {h : Nat → Nat → Int} {a ma we bo ro b0 sh : Nat} {w0 hh : Int} {c0 : Int} (T t : Nat) (hT : T ≤ 30) (ht : t < T)
    (K : ∀ (cc0 : Nat) (h2 : Nat → Nat → Int) (H : Heap) (locs : List Loc) (ls : Array Slot), zFB η D cy L Θ h a ma we bo ro w0 hh H0 h2 H locs → w0 * hh ≤ (cc0 : Int) → zIn w0 hh c0 (h2 we) T t cc0 0 → lv_has ls 8 [(4, .int (Int32.ofInt (t : Int))), (3, .int (Int32.ofInt (T : Int))), (2, .int (Int32.ofInt (sh : Int))), (1, .int (Int32.ofInt (b0 : Int))), (0, .ref (η.1 a))] → W p l e R s m args below meth c H locs 0 0 Q (F0 m 307 ls [])) :
    ∀ (f : Nat) (cc0 : Nat) (h2 : Nat → Nat → Int) (H : Heap) (locs : List Loc) (ls : Array Slot), 64 - cc0 ≤ f → cc0 ≤ 64 → zIn w0 hh c0 (h2 we) T t cc0 0 → zFB η D cy L Θ h a ma we bo ro w0 hh H0 h2 H locs → lv_has ls 8 [(5, .int (Int32.ofInt (cc0 : Int))), (4, .int (Int32.ofInt (t : Int))), (3, .int (Int32.ofInt (T : Int))), (2, .int (Int32.ofInt (sh : Int))), (1, .int (Int32.ofInt (b0 : Int))), (0, .ref (η.1 a))] → W p l e R s m args below meth c H locs 0 0 Q (F0 m 204 ls []) := by
  have hx := X.1
  have hb := X.2.1
  intro f
  induction f with
  | zero =>
    intro cc0 h2 H locs ls hf2 hcc hI g hl
    have hn64 := z_n64 g.2.1.2.2.2.2.2.2.2.2.2.2.2.1 g.2.1.2.2.2.2.2.2.2.2.2.2.2.2.1
    have g0 := g
    obtain ⟨gR, ⟨ha, hma, hwe, hbo, hro, f52, f53, f30, f54, f24, f25, hw, hhh, hsea⟩, hH, hS⟩ := g0
    refine lv_iload hx hb zu_X12_findSoon_204 (lv_at hl 0 rfl) ?_
    refine lv_aload_n hx hb zu_X12_findSoon_206 rfl (lv_at hl 5 rfl) ?_
    refine hw_fwide X g zu_X12_findSoon_207 ?_
    refine lv_aload_n hx hb zu_X12_findSoon_210 rfl (lv_at hl 5 rfl) ?_
    refine hw_fhigh X g zu_X12_findSoon_211 ?_
    refine lv_imul hx hb zu_X12_findSoon_214 ?_
    rw [z_mli (by omega) (by omega)]
    refine lv_icmp_ge (tgt := 307) hx hb zu_X12_findSoon_215 (by decide) (fun _ => ?_) (fun hc => absurd ((z_le32 (by omega) (by omega)).mpr (by omega)) hc)
    exact K cc0 h2 H locs ls g (by omega) hI (lv_sub hl [1, 2, 3, 4, 5] rfl)
  | succ f ih =>
    intro cc0 h2 H locs ls hf2 hcc hI g hl
    have hn64 := z_n64 g.2.1.2.2.2.2.2.2.2.2.2.2.2.1 g.2.1.2.2.2.2.2.2.2.2.2.2.2.2.1
    have g0 := g
    obtain ⟨gR, ⟨ha, hma, hwe, hbo, hro, f52, f53, f30, f54, f24, f25, hw, hhh, hsea⟩, hH, hS⟩ := g0
    refine lv_iload hx hb zu_X12_findSoon_204 (lv_at hl 0 rfl) ?_
    refine lv_aload_n hx hb zu_X12_findSoon_206 rfl (lv_at hl 5 rfl) ?_
    refine hw_fwide X g zu_X12_findSoon_207 ?_
    refine lv_aload_n hx hb zu_X12_findSoon_210 rfl (lv_at hl 5 rfl) ?_
    refine hw_fhigh X g zu_X12_findSoon_211 ?_
    refine lv_imul hx hb zu_X12_findSoon_214 ?_
    rw [z_mli (by omega) (by omega)]
    refine lv_icmp_ge (tgt := 307) hx hb zu_X12_findSoon_215 (by decide) (fun hc => ?_) (fun hc => ?_)
    · exact K cc0 h2 H locs ls g ((z_le32 (by omega) (by omega)).mp hc) hI (lv_sub hl [1, 2, 3, 4, 5] rfl)
    have hcn : (cc0 : Int) < w0 * hh := by
      apply Int.not_le.mp
      intro q
      exact hc ((z_le32 (by omega) (by omega)).mpr q)
    refine lv_iconst (v := Int32.ofInt 0) hx hb zu_X12_findSoon_218 (by decide) ?_
    refine lv_istore (lv' := [(6, .int (Int32.ofInt ((0 : Nat) : Int))), (5, .int (Int32.ofInt (cc0 : Int))), (4, .int (Int32.ofInt (t : Int))), (3, .int (Int32.ofInt (T : Int))), (2, .int (Int32.ofInt (sh : Int))), (1, .int (Int32.ofInt (b0 : Int))), (0, .ref (η.1 a))]) hx hb zu_X12_findSoon_219 hl (by decide) rfl (fun ls hl => ?_)
    refine zfs_e X hKW hf hlo T t cc0 hT ht (by omega) (fun h3 H3 locs3 ls3 g3 hI3 hl3 => ?_) 5 0 h2 H locs ls (by omega) (by omega) hI g hl
    have hl := hl3
    refine lv_iinc (lv' := [(5, .int (Int32.ofInt ((cc0 + 1 : Nat) : Int))), (4, .int (Int32.ofInt (t : Int))), (3, .int (Int32.ofInt (T : Int))), (2, .int (Int32.ofInt (sh : Int))), (1, .int (Int32.ofInt (b0 : Int))), (0, .ref (η.1 a))]) hx hb zu_X12_findSoon_301 hl (k := 0) rfl (z_inc1 (by omega)) (by decide) rfl (fun ls hl => ?_)
    refine lv_goto (tgt := 204) hx hb zu_X12_findSoon_304 (by decide) ?_
    exact ih (cc0 + 1) h3 H3 locs3 ls (by omega) (by omega) (zIn_c hI3) g3 hl
set_option maxHeartbeats 16000000 in
/-- the hours, going back -/
theorem zfs_h {p : Program} {l : Launch} {e : Env} {R : Room} {s : State} {m : MethodId} {args : Array Value} {below : List Frame} {meth : Method} {c : Code} {Q : State → Prop} {D : va_G} {cy : Nat → ClassId} {L : List Nat} {Θ : Nat → Option Nat} {H0 : Heap} (X : hCx D vwCl cy L p s m args c cX12_findSoon 8 (tyW cy) zTW RX12) (hKW : KW D cy s) (hf : 6 ≤ R.frames) (hlo : 139 ≤ R.locals) {h : Nat → Nat → Int} {a ma we bo ro b0 sh : Nat} {w0 hh : Int} {c0 : Int} (T : Nat) (hT : T ≤ 30)
    (K : ∀ (h2 : Nat → Nat → Int) (H : Heap) (locs : List Loc) (ls : Array Slot), zFB η D cy L Θ h a ma we bo ro w0 hh H0 h2 H locs → zSd w0 hh (h2 we) T 0 → zFd w0 hh c0 (h2 we) 0 → lv_has ls 8 [(3, .int (Int32.ofInt (T : Int))), (2, .int (Int32.ofInt (sh : Int))), (1, .int (Int32.ofInt (b0 : Int))), (0, .ref (η.1 a))] → W p l e R s m args below meth c H locs 0 0 Q (F0 m 313 ls [])) :
    ∀ (f : Nat)  (h2 : Nat → Nat → Int) (H : Heap) (locs : List Loc) (ls : Array Slot), f ≤ T → zZr (h2 we) f → zSd w0 hh (h2 we) T f → zFd w0 hh c0 (h2 we) f → zFB η D cy L Θ h a ma we bo ro w0 hh H0 h2 H locs → lv_has ls 8 [(4, .int (Int32.ofInt ((f : Int) - 1))), (3, .int (Int32.ofInt (T : Int))), (2, .int (Int32.ofInt (sh : Int))), (1, .int (Int32.ofInt (b0 : Int))), (0, .ref (η.1 a))] → W p l e R s m args below meth c H locs 0 0 Q (F0 m 196 ls []) := by
  have hx := X.1
  have hb := X.2.1
  intro f
  induction f with
  | zero =>
    intro h2 H locs ls hfT hZr hSd hFd g hl
    refine lv_iload hx hb zu_X12_findSoon_196 (lv_at hl 0 rfl) ?_
    refine lv_if_lt (tgt := 313) hx hb zu_X12_findSoon_198 (by decide) (fun _ => ?_) (fun hc => absurd (by decide) hc)
    exact K h2 H locs ls g hSd hFd (lv_sub hl [1, 2, 3, 4] rfl)
  | succ f ih =>
    intro h2 H locs ls hfT hZr hSd hFd g hl
    rw [show ((f + 1 : Nat) : Int) - 1 = (f : Int) by omega] at hl
    refine lv_iload hx hb zu_X12_findSoon_196 (lv_at hl 0 rfl) ?_
    refine lv_if_lt (tgt := 313) hx hb zu_X12_findSoon_198 (by decide) (fun hc => ?_) (fun _ => ?_)
    · have hc := (z_lt32 (x := (f : Int)) (y := 0) (by omega) (by omega)).mp hc
      omega
    refine lv_iconst (v := Int32.ofInt 0) hx hb zu_X12_findSoon_201 (by decide) ?_
    refine lv_istore (lv' := [(5, .int (Int32.ofInt ((0 : Nat) : Int))), (4, .int (Int32.ofInt (f : Int))), (3, .int (Int32.ofInt (T : Int))), (2, .int (Int32.ofInt (sh : Int))), (1, .int (Int32.ofInt (b0 : Int))), (0, .ref (η.1 a))]) hx hb zu_X12_findSoon_202 hl (by decide) rfl (fun ls hl => ?_)
    refine zfs_g X hKW hf hlo T f hT (by omega) (fun cc3 h3 H3 locs3 ls3 g3 hn3 hI3 hl3 => ?_) 64 0 h2 H locs ls (by omega) (by omega) (zIn_start hZr hSd hFd) g hl
    have hn64 := z_n64 g3.2.1.2.2.2.2.2.2.2.2.2.2.2.1 g3.2.1.2.2.2.2.2.2.2.2.2.2.2.2.1
    obtain ⟨q1, q2, q3⟩ := zIn_end hn3 hn64.2 hI3
    have hl := hl3
    refine lv_iinc (lv' := [(4, .int (Int32.ofInt ((f : Int) - 1))), (3, .int (Int32.ofInt (T : Int))), (2, .int (Int32.ofInt (sh : Int))), (1, .int (Int32.ofInt (b0 : Int))), (0, .ref (η.1 a))]) hx hb zu_X12_findSoon_307 hl (k := 0) rfl (z_dec1 (by omega)) (by decide) rfl (fun ls hl => ?_)
    refine lv_goto (tgt := 196) hx hb zu_X12_findSoon_310 (by decide) ?_
    exact ih h3 H3 locs3 ls (by omega) q1 q2 q3 g3 hl
set_option maxHeartbeats 16000000 in
/-- the deed that leads on -/
theorem zfs_i {p : Program} {l : Launch} {e : Env} {R : Room} {s : State} {m : MethodId} {args : Array Value} {below : List Frame} {meth : Method} {c : Code} {Q : State → Prop} {D : va_G} {cy : Nat → ClassId} {L : List Nat} {Θ : Nat → Option Nat} {H0 : Heap} (X : hCx D vwCl cy L p s m args c cX12_findSoon 8 (tyW cy) zTW RX12) (hKW : KW D cy s) (hf : 6 ≤ R.frames) (hlo : 139 ≤ R.locals) {h : Nat → Nat → Int} {a ma we bo ro b0 sh : Nat} {w0 hh : Int} (T t cc0 : Nat) (hT : T ≤ 30) (ht : t < T) (hc64 : cc0 < 64) (fw : Nat → Int) (h2 : Nat → Nat → Int) (H : Heap) (locs : List Loc) (g : zFB η D cy L Θ h a ma we bo ro w0 hh H0 h2 H locs) (hfw : h2 we = fw)
    (K : ∀ (d : Nat) (ls : Array Slot), d ≤ 4 → 0 ≤ zmv w0 hh (cc0 : Int) (d : Int) → fw (64 * (t + 1) + (zmv w0 hh (cc0 : Int) (d : Int)).toNat) = 1 → lv_has ls 8 [(6, .int (Int32.ofInt (d : Int))), (5, .int (Int32.ofInt (t : Int))), (4, .int (Int32.ofInt (cc0 : Int))), (3, .int (Int32.ofInt (T : Int))), (2, .int (Int32.ofInt (sh : Int))), (1, .int (Int32.ofInt (b0 : Int))), (0, .ref (η.1 a))] → W p l e R s m args below meth c H locs 0 0 Q (F0 m 375 ls [])) :
    ∀ (f : Nat) (d : Nat) (ls : Array Slot), 5 - d ≤ f → (∃ d2 : Nat, d ≤ d2 ∧ d2 ≤ 4 ∧ 0 ≤ zmv w0 hh (cc0 : Int) (d2 : Int) ∧ h2 we (64 * (t + 1) + (zmv w0 hh (cc0 : Int) (d2 : Int)).toNat) = 1) → lv_has ls 8 [(6, .int (Int32.ofInt (d : Int))), (5, .int (Int32.ofInt (t : Int))), (4, .int (Int32.ofInt (cc0 : Int))), (3, .int (Int32.ofInt (T : Int))), (2, .int (Int32.ofInt (sh : Int))), (1, .int (Int32.ofInt (b0 : Int))), (0, .ref (η.1 a))] → W p l e R s m args below meth c H locs 0 0 Q (F0 m 333 ls []) := by
  have hx := X.1
  have hb := X.2.1
  intro f
  induction f with
  | zero =>
    intro d ls hf2 hD hl
    obtain ⟨d2, r1, r2, r3⟩ := hD
    omega
  | succ f ih =>
    intro d ls hf2 hD hl
    obtain ⟨d2, r1, r2, r3, r4⟩ := hD
    have hd4 : d ≤ 4 := by omega
    have g0 := g
    obtain ⟨gR, ⟨ha, hma, hwe, hbo, hro, f52, f53, f30, f54, f24, f25, hw, hhh, hsea⟩, hH, hS⟩ := g0
    have hmv := z_mv63 (w := w0) (hh := hh) (c := (cc0 : Int)) (d := (d : Int)) (by omega) hhh.2 (by omega)
    -- the next deed
    have nxt : ¬ (0 ≤ zmv w0 hh (cc0 : Int) (d : Int) ∧ h2 we (64 * (t + 1) + (zmv w0 hh (cc0 : Int) (d : Int)).toNat) = 1) → W p l e R s m args below meth c H locs 0 0 Q (F0 m 369 ls []) := by
      intro hno
      have hne : d ≠ d2 := by
        rintro rfl
        exact hno ⟨r3, r4⟩
      refine lv_iinc (lv' := [(6, .int (Int32.ofInt ((d + 1 : Nat) : Int))), (5, .int (Int32.ofInt (t : Int))), (4, .int (Int32.ofInt (cc0 : Int))), (3, .int (Int32.ofInt (T : Int))), (2, .int (Int32.ofInt (sh : Int))), (1, .int (Int32.ofInt (b0 : Int))), (0, .ref (η.1 a))]) hx hb zu_X12_findSoon_369 hl (k := 0) rfl (z_inc1 (by omega)) (by decide) rfl (fun ls hl => ?_)
      refine lv_goto (tgt := 333) hx hb zu_X12_findSoon_372 (by decide) ?_
      exact ih (d + 1) ls (by omega) ⟨d2, by omega, r2, r3, r4⟩ hl
    refine lv_aload_n hx hb zu_X12_findSoon_333 rfl (lv_at hl 6 rfl) ?_
    refine lv_iload hx hb zu_X12_findSoon_334 (lv_at hl 2 rfl) ?_
    refine lv_iload hx hb zu_X12_findSoon_336 (lv_at hl 0 rfl) ?_
    refine hw_moved X hKW ha hl.1 (by omega) (by omega) (Nat.le_of_ble_eq_true rfl) hH hd4 f24 f25 (by omega) (by omega) zyt_421 zu_X12_findSoon_338 ?_
    refine lv_iconst (v := Int32.ofInt (-1)) hx hb zu_X12_findSoon_341 (by decide) ?_
    refine lv_icmp_eq (tgt := 369) hx hb zu_X12_findSoon_342 (by decide) (fun q => ?_) (fun q => ?_)
    · have q := (z_e32 (by omega) (by omega)).mp q
      exact nxt (fun r => by omega)
    have q : ¬ zmv w0 hh (cc0 : Int) (d : Int) = -1 := fun r => q ((z_e32 (by omega) (by omega)).mpr r)
    obtain ⟨x, hx63, ex⟩ : ∃ x : Nat, x < 64 ∧ zmv w0 hh (cc0 : Int) (d : Int) = (x : Int) := ⟨(zmv w0 hh (cc0 : Int) (d : Int)).toNat, by omega, by omega⟩
    have ext : (zmv w0 hh (cc0 : Int) (d : Int)).toNat = x := by omega
    refine lv_aload_n hx hb zu_X12_findSoon_345 rfl (lv_at hl 6 rfl) ?_
    refine hw_fwell X g zu_X12_findSoon_346 ?_
    refine lv_bipush (v := Int32.ofInt 64) hx hb zu_X12_findSoon_349 (by decide) ?_
    refine lv_iload hx hb zu_X12_findSoon_351 (lv_at hl 1 rfl) ?_
    refine lv_iconst (v := Int32.ofInt 1) hx hb zu_X12_findSoon_353 (by decide) ?_
    refine lv_iadd hx hb zu_X12_findSoon_354 ?_
    rw [z_inc1 (by omega)]
    refine lv_imul hx hb zu_X12_findSoon_355 ?_
    refine lv_aload_n hx hb zu_X12_findSoon_356 rfl (lv_at hl 6 rfl) ?_
    refine lv_iload hx hb zu_X12_findSoon_357 (lv_at hl 2 rfl) ?_
    refine lv_iload hx hb zu_X12_findSoon_359 (lv_at hl 0 rfl) ?_
    refine hw_moved X hKW ha hl.1 (by omega) (by omega) (Nat.le_of_ble_eq_true rfl) hH hd4 f24 f25 (by omega) (by omega) zyt_421 zu_X12_findSoon_361 ?_
    refine lv_iadd hx hb zu_X12_findSoon_364 ?_
    rw [ex, z_ix (by omega) hx63]
    refine hw_ld_well X g (by omega) zu_X12_findSoon_365 ?_
    have hbit2 := z_bit hH (Or.inr hwe) (j := 64 * (t + 1) + x) (by omega)
    refine lv_if_ne (tgt := 375) hx hb zu_X12_findSoon_366 (by decide) (fun q => ?_) (fun q => ?_)
    · refine K d ls hd4 (by omega) ?_ hl
      rw [ext]
      rcases hbit2 with q2 | q2
      · rw [q2] at q
        exact absurd rfl q
      · rw [← hfw]
        exact q2
    refine nxt (fun r => ?_)
    rw [ext] at r
    rw [r.2] at q
    exact absurd q (by decide)
theorem zt_rows (j : Nat) : zty zK_rows j = (0, -2147483648, 2147483647) := by unfold zty; simp [Nat.mod_one]
set_option maxHeartbeats 16000000 in
/-- the way -/
theorem zfs_j {p : Program} {l : Launch} {e : Env} {R : Room} {s : State} {m : MethodId} {args : Array Value} {below : List Frame} {meth : Method} {c : Code} {Q : State → Prop} {D : va_G} {cy : Nat → ClassId} {L : List Nat} {Θ : Nat → Option Nat} {H0 : Heap} (X : hCx D vwCl cy L p s m args c cX12_findSoon 8 (tyW cy) zTW RX12) (hKW : KW D cy s) (hf : 6 ≤ R.frames) (hlo : 139 ≤ R.locals) {h : Nat → Nat → Int} {a ma we bo ro b0 sh : Nat} {w0 hh : Int} (T : Nat) (hT : T ≤ 30)
    (K : ∀ (h2 : Nat → Nat → Int) (H : Heap) (locs : List Loc) (ls : Array Slot), zFB η D cy L Θ h a ma we bo ro w0 hh H0 h2 H locs → lv_has ls 8 [(3, .int (Int32.ofInt (T : Int))), (2, .int (Int32.ofInt (sh : Int))), (1, .int (Int32.ofInt (b0 : Int))), (0, .ref (η.1 a))] → W p l e R s m args below meth c H locs 0 0 Q (F0 m 400 ls [])) :
    ∀ (f : Nat) (t cc0 : Nat) (h2 : Nat → Nat → Int) (H : Heap) (locs : List Loc) (ls : Array Slot), T - t ≤ f → t ≤ T → cc0 < 64 → zSd w0 hh (h2 we) T 0 → h2 we (64 * t + cc0) = 1 → zFB η D cy L Θ h a ma we bo ro w0 hh H0 h2 H locs → lv_has ls 8 [(5, .int (Int32.ofInt (t : Int))), (4, .int (Int32.ofInt (cc0 : Int))), (3, .int (Int32.ofInt (T : Int))), (2, .int (Int32.ofInt (sh : Int))), (1, .int (Int32.ofInt (b0 : Int))), (0, .ref (η.1 a))] → W p l e R s m args below meth c H locs 0 0 Q (F0 m 324 ls []) := by
  have hx := X.1
  have hb := X.2.1
  intro f
  induction f with
  | zero =>
    intro t cc0 h2 H locs ls hf2 htT0 hc64 hSd hw1 g hl
    refine lv_iload hx hb zu_X12_findSoon_324 (lv_at hl 0 rfl) ?_
    refine lv_iload_n hx hb zu_X12_findSoon_326 rfl (lv_at hl 2 rfl) ?_
    refine lv_icmp_ge (tgt := 400) hx hb zu_X12_findSoon_327 (by decide) (fun _ => ?_) (fun hc => absurd ((z_le32 (by omega) (by omega)).mpr (by omega)) hc)
    exact K h2 H locs ls g (lv_sub hl [2, 3, 4, 5] rfl)
  | succ f ih =>
    intro t cc0 h2 H locs ls hf2 htT0 hc64 hSd hw1 g hl
    refine lv_iload hx hb zu_X12_findSoon_324 (lv_at hl 0 rfl) ?_
    refine lv_iload_n hx hb zu_X12_findSoon_326 rfl (lv_at hl 2 rfl) ?_
    refine lv_icmp_ge (tgt := 400) hx hb zu_X12_findSoon_327 (by decide) (fun hc => ?_) (fun hc => ?_)
    · exact K h2 H locs ls g (lv_sub hl [2, 3, 4, 5] rfl)
    have htT : t < T := by
      apply Nat.not_le.mp
      intro q
      exact hc ((z_le32 (by omega) (by omega)).mpr (by omega))
    refine lv_iconst (v := Int32.ofInt 0) hx hb zu_X12_findSoon_330 (by decide) ?_
    refine lv_istore (lv' := [(6, .int (Int32.ofInt ((0 : Nat) : Int))), (5, .int (Int32.ofInt (t : Int))), (4, .int (Int32.ofInt (cc0 : Int))), (3, .int (Int32.ofInt (T : Int))), (2, .int (Int32.ofInt (sh : Int))), (1, .int (Int32.ofInt (b0 : Int))), (0, .ref (η.1 a))]) hx hb zu_X12_findSoon_331 hl (by decide) rfl (fun ls hl => ?_)
    obtain ⟨d2, r1, r2, r3⟩ := hSd t cc0 (Nat.zero_le _) htT hc64 hw1
    refine zfs_i X hKW hf hlo T t cc0 hT htT hc64 (h2 we) h2 H locs g rfl (fun d ls hd4 hm0 hm1 hl => ?_) 5 0 ls (by omega) ⟨d2, by omega, r1, r2, r3⟩ hl
    have g0 := g
    obtain ⟨gR, ⟨ha, hma, hwe, hbo, hro, f52, f53, f30, f54, f24, f25, hw, hhh, hsea⟩, hH, hS⟩ := g0
    have hmv := z_mv63 (w := w0) (hh := hh) (c := (cc0 : Int)) (d := (d : Int)) (by omega) hhh.2 (by omega)
    obtain ⟨x, hx63, ex⟩ : ∃ x : Nat, x < 64 ∧ zmv w0 hh (cc0 : Int) (d : Int) = (x : Int) := ⟨(zmv w0 hh (cc0 : Int) (d : Int)).toNat, by omega, by omega⟩
    have ext : (zmv w0 hh (cc0 : Int) (d : Int)).toNat = x := by omega
    rw [ext] at hm1
    refine lv_aload_n hx hb zu_X12_findSoon_375 rfl (lv_at hl 6 rfl) ?_
    refine hw_frows X g zu_X12_findSoon_376 ?_
    refine lv_iload hx hb zu_X12_findSoon_379 (lv_at hl 1 rfl) ?_
    refine lv_iload hx hb zu_X12_findSoon_381 (lv_at hl 0 rfl) ?_
    have tt : (Int32.ofInt (t : Int)).toInt = (t : Int) := z_toi (by omega) (by omega)
    have td : (Int32.ofInt (d : Int)).toInt = (d : Int) := z_toi (by omega) (by omega)
    refine hw_iast X hro zkk_rows ⟨rfl, rfl⟩ (by show _ ∧ _ < (30 : Int); rw [tt]; omega) (by rw [zt_rows, td]; exact ⟨⟨by omega, by omega⟩, by simp only; omega, by simp only; omega⟩) hH hS zu_X12_findSoon_383 (fun H1 locs1 hH1 hS1 => ?_)
    rw [tt, td, Int.toNat_natCast] at hH1
    have g1 := zFB_up g hro (by omega) hH1 hS1
    have g10 := g1
    obtain ⟨_, ⟨ha1, _, _, _, _, _, _, _, _, f241, f251, hw9, hhh9, _⟩, hH9, hS9⟩ := g10
    refine lv_aload_n hx hb zu_X12_findSoon_384 rfl (lv_at hl 6 rfl) ?_
    refine lv_iload hx hb zu_X12_findSoon_385 (lv_at hl 2 rfl) ?_
    refine lv_iload hx hb zu_X12_findSoon_387 (lv_at hl 0 rfl) ?_
    refine hw_moved X hKW ha hl.1 (by omega) (by omega) (Nat.le_of_ble_eq_true rfl) hH9 hd4 f241 f251 (by omega) (by omega) zyt_421 zu_X12_findSoon_389 ?_
    rw [ex]
    refine lv_istore (lv' := [(4, .int (Int32.ofInt (x : Int))), (6, .int (Int32.ofInt (d : Int))), (5, .int (Int32.ofInt (t : Int))), (3, .int (Int32.ofInt (T : Int))), (2, .int (Int32.ofInt (sh : Int))), (1, .int (Int32.ofInt (b0 : Int))), (0, .ref (η.1 a))]) hx hb zu_X12_findSoon_392 hl (by decide) rfl (fun ls hl => ?_)
    refine lv_iinc (lv' := [(5, .int (Int32.ofInt ((t + 1 : Nat) : Int))), (4, .int (Int32.ofInt (x : Int))), (6, .int (Int32.ofInt (d : Int))), (3, .int (Int32.ofInt (T : Int))), (2, .int (Int32.ofInt (sh : Int))), (1, .int (Int32.ofInt (b0 : Int))), (0, .ref (η.1 a))]) hx hb zu_X12_findSoon_394 hl (k := 2) rfl (z_inc1 (by omega)) (by decide) rfl (fun ls hl => ?_)
    refine lv_goto (tgt := 324) hx hb zu_X12_findSoon_397 (by decide) ?_
    have hrow := zup_row (h := h2) (j := t) (x := (d : Int)) (z_rowe g)
    exact ih (t + 1) x _ H1 locs1 ls (by omega) (by omega) hx63 (by rw [hrow]; exact hSd) (by rw [hrow]; exact hm1) g1 (lv_sub hl [0, 1, 3, 4, 5, 6] rfl)
end
section
set_option maxRecDepth 100000 in
theorem zq_X12_findSoon : lw_tbl[1807]? = some (.code yX12_findSoon cX12_findSoon 8 (some .int)) := rfl
theorem zw_X12_findSoon : zMV yX12_findSoon cX12_findSoon 8 (some .int) 2 := ⟨⟨zTin 113 (by decide +kernel) rfl, zTin 1807 zq_X12_findSoon rfl, ⟨by decide, by decide⟩, by decide +kernel⟩, zTin 1806 (by decide +kernel) rfl, zTin 82 (by decide +kernel) rfl⟩
theorem zf_RX12_96 : zFok RX12 zTW vwCl (96, 12, 54, none) := ⟨RX12, TX12, 64, rfl, zx_12, by decide, zTin 1353 (by decide +kernel) rfl, fun _ h => by cases h⟩
def zk_X12_findSoon_0 : zCT := ((yX12_findSoon, cX12_findSoon, 8, (some .int)), (6, 139), ([(37, 1, 0), (0, 2, 0), (0, 3, 0)], ([(0, 0), (0, 2147483647), (0, 5), (0, 5), (0, 1), (2, 8)], [(0, (37, 1, 0)), (1, (0, 2, 0)), (2, (0, 3, 0))], [], [((35, 1), 23, (0, 4, 0)), ((35, 1), 24, (0, 5, 0))], [])), [([(0, 0), (0, 2147483647), (0, 5), (0, 5), (0, 1), (2, 8), ((-1), 30)], [], [(0, 6, 0)], [], [])], [(10, 0, 5), (13, 0, 5), (26, 0, 29), (27, 0, 1983), (28, 0, 1983)])
theorem zr_X12_findSoon_0 : zRC zkdm vwCl zk_X12_findSoon_0 2 := ⟨by decide +kernel, (37, 1, 0), [(0, 2, 0), (0, 3, 0)], _, TX12, 64, rfl, by decide, by decide +kernel, zkdm_35, rfl, rfl⟩
end
section
variable {η : zRn}
/-! findSoon: the whole -/
theorem zyt_418 : Cond.methodLink RX12 418 yX12_couldFrom ∈ zTW := zTin 1808 (by decide +kernel) rfl
theorem zyt_400 : Cond.methodLink RX12 400 yX12_driftAll ∈ zTW := zTin 1760 (by decide +kernel) rfl
theorem z_len6 {l : List Int} (h : l.length = 6) : ∃ x0 x1 x2 x3 x4 x5, l = [x0, x1, x2, x3, x4, x5] := by
  match l, h with
  | [x0, x1, x2, x3, x4, x5], _ => exact ⟨x0, x1, x2, x3, x4, x5, rfl⟩
theorem z_fr_may {D : va_G} {cy : Nat → ClassId} {L : List Nat} {Θ : Nat → Option Nat} {h : Nat → Nat → Int} {H : Heap} (hH : zH η zkdm D vwCl cy L Θ h H) {a : Nat} (ha : Θ a = some 35) : ∃ b : Nat, h a 52 = (b : Int) ∧ Θ b = some 27 := by
  have h1 := zH_in hH ha zkm (j := 52) (by decide)
  rw [zty_may] at h1
  obtain ⟨k1, k2, -⟩ := h1
  simp only at k2
  have k3 : 0 ≤ h a 52 ∧ Θ (h a 52).toNat = some 27 := by
    rcases k1 with k1 | k1
    · omega
    · exact k1
  exact ⟨(h a 52).toNat, by omega, k3.2⟩
theorem z_fr_well {D : va_G} {cy : Nat → ClassId} {L : List Nat} {Θ : Nat → Option Nat} {h : Nat → Nat → Int} {H : Heap} (hH : zH η zkdm D vwCl cy L Θ h H) {a : Nat} (ha : Θ a = some 35) : ∃ b : Nat, h a 53 = (b : Int) ∧ Θ b = some 28 := by
  have h1 := zH_in hH ha zkm (j := 53) (by decide)
  rw [zty_well] at h1
  obtain ⟨k1, k2, -⟩ := h1
  simp only at k2
  have k3 : 0 ≤ h a 53 ∧ Θ (h a 53).toNat = some 28 := by
    rcases k1 with k1 | k1
    · omega
    · exact k1
  exact ⟨(h a 53).toNat, by omega, k3.2⟩
theorem z_fr_boatAt {D : va_G} {cy : Nat → ClassId} {L : List Nat} {Θ : Nat → Option Nat} {h : Nat → Nat → Int} {H : Heap} (hH : zH η zkdm D vwCl cy L Θ h H) {a : Nat} (ha : Θ a = some 35) : ∃ b : Nat, h a 30 = (b : Int) ∧ Θ b = some 10 := by
  have h1 := zH_in hH ha zkm (j := 30) (by decide)
  rw [zty_boatAt] at h1
  obtain ⟨k1, k2, -⟩ := h1
  simp only at k2
  have k3 : 0 ≤ h a 30 ∧ Θ (h a 30).toNat = some 10 := by
    rcases k1 with k1 | k1
    · omega
    · exact k1
  exact ⟨(h a 30).toNat, by omega, k3.2⟩
theorem z_fr_rows {D : va_G} {cy : Nat → ClassId} {L : List Nat} {Θ : Nat → Option Nat} {h : Nat → Nat → Int} {H : Heap} (hH : zH η zkdm D vwCl cy L Θ h H) {a : Nat} (ha : Θ a = some 35) : ∃ b : Nat, h a 54 = (b : Int) ∧ Θ b = some 26 := by
  have h1 := zH_in hH ha zkm (j := 54) (by decide)
  rw [zty_rows] at h1
  obtain ⟨k1, k2, -⟩ := h1
  simp only at k2
  have k3 : 0 ≤ h a 54 ∧ Θ (h a 54).toNat = some 26 := by
    rcases k1 with k1 | k1
    · omega
    · exact k1
  exact ⟨(h a 54).toNat, by omega, k3.2⟩
set_option maxHeartbeats 16000000 in
set_option maxRecDepth 100000 in
theorem zfs_all (l : Launch) (η : zRn) (D : va_G) (cy : Nat → ClassId) (L : List Nat) (Θ : Nat → Option Nat) (h : Nat → Nat → Int) (a b0 sh : Nat) (x4 x5 : Int) (hnd : L.Nodup) (ha : Θ a = some 35) (haM : (a : Int) ≤ 2147483647) (hb5 : b0 ≤ 5) (hs5 : sh ≤ 5) (h23 : 0 ≤ h a 23 ∧ h a 23 ≤ 1) (h24 : 2 ≤ h a 24 ∧ h a 24 ≤ 8)
    (hE0 : zge [0, (a : Int), (b0 : Int), (sh : Int), x4, x5] [(0, 0), (0, 2147483647), (0, 5), (0, 5), (0, 1), (2, 8)]) :
    Met l yX12_findSoon (Cond.code yX12_findSoon cX12_findSoon 8 (some .int) :: zTW) ({ frames := 6, cells := 0, slots := 0, locals := 139 } : Room) (va_Pc [.ref (η.1 a), .int (Int32.ofInt (b0 : Int)), .int (Int32.ofInt (sh : Int))] (fun U : State => zH η zkdm D vwCl cy L Θ h U.heap ∧ zKPr η D cy L Θ U)) (zQ η zkdm D vwCl cy L Θ h [0, (a : Int), (b0 : Int), (sh : Int), x4, x5] zk_X12_findSoon_0.2.2.2.1 zk_X12_findSoon_0.2.2.2.2) 0 0 (fun q => q ∈ L) := by
  refine Met.ofW (cc := cX12_findSoon) (maxL := 8) (ret := (some .int)) (by decide +kernel) rfl ?_
  intro p e s m args below meth c s₁ B hml hv
  obtain ⟨rfl, hH, hKW⟩ := hv
  have hx := B.exec
  have hb := B.bytes
  have hr := B.returns
  have hts0 := atoms_spec (ws := Cond.code yX12_findSoon cX12_findSoon 8 (some .int) :: zTW) B.pre
  have hts : ∀ w ∈ zTW, w.before _ s = true := fun w hw => hts0 w (List.mem_cons_of_mem _ hw)
  have hown : s.vm.findClass RX12 = some m.cls := findClass_of_methodNamed B.named
  have hlocks := B.notSynchronized
  have hl := lv_entry ([.ref (η.1 a), .int (Int32.ofInt (b0 : Int)), .int (Int32.ofInt (sh : Int))]) (n := 8) (Nat.le_of_ble_eq_true rfl)
  rw [lg_entry_eq]
  generalize (lg_sl ([.ref (η.1 a), .int (Int32.ofInt (b0 : Int)), .int (Int32.ofInt (sh : Int))]) ++ List.replicate (8 - (lg_sl ([.ref (η.1 a), .int (Int32.ofInt (b0 : Int)), .int (Int32.ofInt (sh : Int))])).length) Slot.unset).toArray = ls at hl ⊢
  have hl : lv_has ls 8 [(0, .ref (η.1 a)), (1, .int (Int32.ofInt (b0 : Int))), (2, .int (Int32.ofInt (sh : Int)))] := hl
  have hTT := (zkpr_ok.1 η D cy L Θ s hKW).2
  have X : hCx D vwCl cy L p s m _ c cX12_findSoon 8 (tyW cy) zTW RX12 := ⟨hx, hb, hml, hts, hown, hKW.1, hTT, hnd⟩
  have hf : 6 ≤ (headSpec (Cond.code yX12_findSoon cX12_findSoon 8 (some .int) :: zTW) ({ frames := 6, cells := 0, slots := 0, locals := 139 } : Room)).room.frames := Nat.le_refl 6
  have hlo : 139 ≤ (headSpec (Cond.code yX12_findSoon cX12_findSoon 8 (some .int) :: zTW) ({ frames := 6, cells := 0, slots := 0, locals := 139 } : Room)).room.locals := Nat.le_refl 139
  have hcf := z_runV (e := e) (R := (headSpec (Cond.code yX12_findSoon cX12_findSoon 8 (some .int) :: zTW) ({ frames := 6, cells := 0, slots := 0, locals := 139 } : Room)).room) (below := below) (meth := meth) (pc := 98) zkpr_ok zTW_good rfl (zp_X12_couldFrom_0 l) hnd ⟨hx, hb, hml, hown, hts0⟩ hKW (zcv_2 zw_X12_couldFrom zr_X12_couldFrom_0 418 zu_X12_findSoon_98 zyt_418 (by decide +kernel) (by decide +kernel))
  have hda := z_runV (e := e) (R := (headSpec (Cond.code yX12_findSoon cX12_findSoon 8 (some .int) :: zTW) ({ frames := 6, cells := 0, slots := 0, locals := 139 } : Room)).room) (below := below) (meth := meth) (pc := 182) zkpr_ok zTW_good rfl (zp_X12_driftAll_0 l) hnd ⟨hx, hb, hml, hown, hts0⟩ hKW (zcv_2 zw_X12_driftAll zr_X12_driftAll_0 400 zu_X12_findSoon_182 zyt_400 (by decide +kernel) (by decide +kernel))
  obtain ⟨ma, f52, hma⟩ := z_fr_may hH ha
  obtain ⟨we, f53, hwe⟩ := z_fr_well hH ha
  obtain ⟨bo, f30, hbo⟩ := z_fr_boatAt hH ha
  obtain ⟨ro, f54, hro⟩ := z_fr_rows hH ha
  have h25 : 0 ≤ h a 25 ∧ h a 25 ≤ 8 := by
    have h1 := zH_in hH ha zkm (j := 25) (by decide)
    rw [zty_high] at h1
    exact h1.2
  obtain ⟨w0, ew⟩ : ∃ w0, h a 24 = w0 := ⟨_, rfl⟩
  obtain ⟨hh, eh⟩ : ∃ hh, h a 25 = hh := ⟨_, rfl⟩
  rw [ew] at h24
  rw [eh] at h25
  have hboc := z_boc hH hbo (j := b0) (by omega)
  obtain ⟨c0, ec0⟩ : ∃ c0 : Nat, h bo b0 = (c0 : Int) := ⟨(h bo b0).toNat, by omega⟩
  have hc64 : c0 < 64 := by omega
  have tb : (Int32.ofInt (b0 : Int)).toInt = (b0 : Int) := z_toi (by omega) (by omega)
  have gz : zFB η D cy L Θ h a ma we bo ro w0 hh s.heap h s.heap [] := ⟨⟨fun _ _ _ _ _ => rfl, fun _ _ => rfl⟩, ⟨ha, hma, hwe, hbo, hro, f52, f53, f30, f54, ew, eh, h24, h25, h23⟩, hH, ⟨Nat.le_refl _, fun _ _ _ => rfl, fun _ q => absurd q List.not_mem_nil⟩⟩
  -- its end
  have fin : ∀ (hr : Int) (h2 : Nat → Nat → Int) (H : Heap) (locs : List Loc) (ls : Array Slot), -1 ≤ hr → hr ≤ 30 → zFB η D cy L Θ h a ma we bo ro w0 hh s.heap h2 H locs → lv_has ls 8 [(3, .int (Int32.ofInt hr)), (2, .int (Int32.ofInt (sh : Int))), (1, .int (Int32.ofInt (b0 : Int))), (0, .ref (η.1 a))] → W p l e (headSpec (Cond.code yX12_findSoon cX12_findSoon 8 (some .int) :: zTW) ({ frames := 6, cells := 0, slots := 0, locals := 139 } : Room)).room s m ([.ref (η.1 a), .int (Int32.ofInt (b0 : Int)), .int (Int32.ofInt (sh : Int))] : List Value).toArray below meth c H locs 0 0 (MQ below (zQ η zkdm D vwCl cy L Θ h [0, (a : Int), (b0 : Int), (sh : Int), x4, x5] zk_X12_findSoon_0.2.2.2.1 zk_X12_findSoon_0.2.2.2.2) ([.ref (η.1 a), .int (Int32.ofInt (b0 : Int)), .int (Int32.ofInt (sh : Int))] : List Value).toArray s 0 0 (fun q => q ∈ L)) (F0 m 400 ls []) := by
    intro hr0 h2 H locs ls hr1 hr2 g hl
    refine lv_iload_n hx hb zu_X12_findSoon_400 rfl (lv_at hl 0 rfl) ?_
    refine W.iret hx hb hr (fun t ht _ => ⟨some (.int (Int32.ofInt hr0)), _, [hr0], h2, rfl, List.mem_cons_self, ?_, ?_, ?_, fun _ q => absurd q List.not_mem_nil, fun _ q => absurd q List.not_mem_nil, by rw [ht]; exact g.2.2.1, g.1.1, ?_⟩) (fun q hq => g.2.2.2.2.2 q hq) zu_X12_findSoon_401 hlocks
    · exact ⟨rfl, fun i q hi => by
        rcases Nat.lt_or_ge i 6 with h6 | h6
        · have : (([(0, 0), (0, 2147483647), (0, 5), (0, 5), (0, 1), (2, 8), ((-1), 30)] : List zIV))[i]? = ([(0, 0), (0, 2147483647), (0, 5), (0, 5), (0, 1), (2, 8)] : List zIV)[i]? := by
            rcases (show i = 0 ∨ i = 1 ∨ i = 2 ∨ i = 3 ∨ i = 4 ∨ i = 5 by omega) with rfl | rfl | rfl | rfl | rfl | rfl <;> rfl
          rw [z_gd (by exact h6)]
          exact hE0.2 i q (this.symm.trans hi)
        · rcases Nat.lt_or_ge i 7 with h7 | h7
          · have : i = 6 := by omega
            subst this
            cases hi
            exact ⟨hr1, hr2⟩
          · have e7 : ([(0, 0), (0, 2147483647), (0, 5), (0, 5), (0, 1), (2, 8), ((-1), 30)] : List zIV)[i]? = none := List.getElem?_eq_none (by simpa using h7)
            cases e7.symm.trans hi⟩
    · refine List.forall_mem_cons.mpr ⟨⟨by show (6 : Nat) < 7; decide, ?_⟩, List.forall_mem_nil _⟩
      show zok Θ 0 (hr0 + 0)
      rw [Int.add_zero]
      exact zoki (by omega)
    · show [Value.int (Int32.ofInt hr0)] = [.int (Int32.ofInt (hr0 + 0))]
      rw [Int.add_zero]
    · exact ⟨by rw [ht]; exact g.2.2.2.1, fun q h1 h2 => by rw [ht]; exact g.2.2.2.2.1 q h1 h2⟩
  have hl := lv_sub hl [2, 1, 0] rfl
  have hl : lv_has ls 8 [(2, .int (Int32.ofInt (sh : Int))), (1, .int (Int32.ofInt (b0 : Int))), (0, .ref (η.1 a))] := hl
  refine lv_iconst (v := Int32.ofInt 0) hx hb zu_X12_findSoon_0 (by decide) ?_
  refine lv_istore_n (lv' := [(3, .int (Int32.ofInt ((0 : Nat) : Int))), (2, .int (Int32.ofInt (sh : Int))), (1, .int (Int32.ofInt (b0 : Int))), (0, .ref (η.1 a))]) hx hb zu_X12_findSoon_1 rfl hl (by decide) rfl (fun ls hl => ?_)
  refine zfs_z X hKW hf hlo (fun h2 H locs ls g hz hl => ?_) 1984 0 h s.heap [] ls (by omega) (by omega) (fun j hj => by omega) gz hl
  refine lv_aload_n hx hb zu_X12_findSoon_31 rfl (lv_at hl 2 rfl) ?_
  refine hw_fmay X g zu_X12_findSoon_32 ?_
  refine lv_aload_n hx hb zu_X12_findSoon_35 rfl (lv_at hl 2 rfl) ?_
  refine hw_fboatAt X g zu_X12_findSoon_36 ?_
  refine lv_iload_n hx hb zu_X12_findSoon_39 rfl (lv_at hl 1 rfl) ?_
  have eb : h2 bo b0 = (c0 : Int) := by rw [g.1.2 b0 (by omega)]; exact ec0
  refine hw_iald X hbo zkk_boatAt ⟨rfl, rfl⟩ (by show _ ∧ _ < (6 : Int); rw [tb]; omega) g.2.2.1 zu_X12_findSoon_40 ?_
  rw [tb, Int.toNat_natCast, eb]
  refine lv_iconst (v := Int32.ofInt 1) hx hb zu_X12_findSoon_41 (by decide) ?_
  refine hw_st_may X g (by omega) (Or.inr rfl) zu_X12_findSoon_42 (fun H1 locs1 g1 => ?_)
  refine lv_iconst (v := Int32.ofInt (-1)) hx hb zu_X12_findSoon_43 (by decide) ?_
  refine lv_istore_n (lv' := [(3, .int (Int32.ofInt (-1))), (2, .int (Int32.ofInt (sh : Int))), (1, .int (Int32.ofInt (b0 : Int))), (0, .ref (η.1 a))]) hx hb zu_X12_findSoon_44 rfl hl (by decide) rfl (fun ls hl => ?_)
  refine lv_iconst (v := Int32.ofInt 0) hx hb zu_X12_findSoon_45 (by decide) ?_
  refine lv_istore (lv' := [(4, .int (Int32.ofInt ((0 : Nat) : Int))), (3, .int (Int32.ofInt (-1))), (2, .int (Int32.ofInt (sh : Int))), (1, .int (Int32.ofInt (b0 : Int))), (0, .ref (η.1 a))]) hx hb zu_X12_findSoon_46 hl (by decide) rfl (fun ls hl => ?_)
  refine zfs_f (c0 := (c0 : Int)) X hKW hf hlo hcf haM hb5 hs5 hda (fun hr2 h3 H3 locs3 ls3 g3 hW3 hl3 => ?_) 31 0 (-1) _ H1 locs1 ls (by omega) (by omega) ?_ ?_ g1 hl
  rotate_left
  · rw [zup_slf]
    intro t2 c2 ht2 hc2 e2
    by_cases q : 64 * t2 + c2 = c0
    · have q1 : t2 = 0 := by omega
      subst q1
      show (c2 : Int) = (c0 : Int)
      omega
    · simp only [if_neg q] at e2
      have := (hz (64 * t2 + c2) (by omega)).1
      omega
  · rw [zup_row (z_mawe g).symm]
    exact Or.inl ⟨rfl, fun t2 c2 h1 h2 => (hz (64 * t2 + c2) (by omega)).2⟩
  have hl := hl3
  refine lv_iload_n hx hb zu_X12_findSoon_191 rfl (lv_at hl 0 rfl) ?_
  refine lv_iconst (v := Int32.ofInt 1) hx hb zu_X12_findSoon_192 (by decide) ?_
  refine lv_isub hx hb zu_X12_findSoon_193 ?_
  rcases hW3 with ⟨rfl, -⟩ | ⟨T, hT, rfl, hZr, hFd⟩
  · rw [z_sbi (by omega) (by omega) (by omega)]
    refine lv_istore (lv' := [(4, .int (Int32.ofInt (-1 - 1))), (3, .int (Int32.ofInt (-1))), (2, .int (Int32.ofInt (sh : Int))), (1, .int (Int32.ofInt (b0 : Int))), (0, .ref (η.1 a))]) hx hb zu_X12_findSoon_194 hl (by decide) rfl (fun ls hl => ?_)
    refine lv_iload hx hb zu_X12_findSoon_196 (lv_at hl 0 rfl) ?_
    refine lv_if_lt (tgt := 313) hx hb zu_X12_findSoon_198 (by decide) (fun _ => ?_) (fun hc => absurd (by decide) hc)
    refine lv_aload_n hx hb zu_X12_findSoon_313 rfl (lv_at hl 4 rfl) ?_
    refine hw_fboatAt X g3 zu_X12_findSoon_314 ?_
    refine lv_iload_n hx hb zu_X12_findSoon_317 rfl (lv_at hl 3 rfl) ?_
    have eb3 : (h3) bo b0 = (c0 : Int) := by rw [g3.1.2 b0 (by omega)]; exact ec0
    refine hw_iald X hbo zkk_boatAt ⟨rfl, rfl⟩ (by show _ ∧ _ < (6 : Int); rw [tb]; omega) g3.2.2.1 zu_X12_findSoon_318 ?_
    rw [tb, Int.toNat_natCast, eb3]
    refine lv_istore (lv' := [(4, .int (Int32.ofInt (c0 : Int))), (3, .int (Int32.ofInt (-1))), (2, .int (Int32.ofInt (sh : Int))), (1, .int (Int32.ofInt (b0 : Int))), (0, .ref (η.1 a))]) hx hb zu_X12_findSoon_319 hl (by decide) rfl (fun ls hl => ?_)
    refine lv_iconst (v := Int32.ofInt 0) hx hb zu_X12_findSoon_321 (by decide) ?_
    refine lv_istore (lv' := [(5, .int (Int32.ofInt ((0 : Nat) : Int))), (4, .int (Int32.ofInt (c0 : Int))), (3, .int (Int32.ofInt (-1))), (2, .int (Int32.ofInt (sh : Int))), (1, .int (Int32.ofInt (b0 : Int))), (0, .ref (η.1 a))]) hx hb zu_X12_findSoon_322 hl (by decide) rfl (fun ls hl => ?_)
    refine lv_iload hx hb zu_X12_findSoon_324 (lv_at hl 0 rfl) ?_
    refine lv_iload_n hx hb zu_X12_findSoon_326 rfl (lv_at hl 2 rfl) ?_
    refine lv_icmp_ge (tgt := 400) hx hb zu_X12_findSoon_327 (by decide) (fun _ => ?_) (fun hc => absurd (by decide) hc)
    exact fin (-1) h3 H3 locs3 ls (by omega) (by omega) g3 (lv_sub hl [2, 3, 4, 5] rfl)
  · rw [z_sbi (by omega) (by omega) (by omega)]
    refine lv_istore (lv' := [(4, .int (Int32.ofInt ((T : Int) - 1))), (3, .int (Int32.ofInt (T : Int))), (2, .int (Int32.ofInt (sh : Int))), (1, .int (Int32.ofInt (b0 : Int))), (0, .ref (η.1 a))]) hx hb zu_X12_findSoon_194 hl (by decide) rfl (fun ls hl => ?_)
    refine zfs_h X hKW hf hlo T hT (fun h4 H4 locs4 ls4 g4 hSd4 hFd4 hl4 => ?_) T h3 H3 locs3 ls (Nat.le_refl _) hZr (fun t2 c2 q1 q2 => by omega) hFd g3 hl
    have hl := hl4
    have hw1 : h4 we (64 * 0 + c0) = 1 := by
      obtain ⟨c2, q1, q2, q3⟩ := hFd4
      have q3 : (c2 : Int) = (c0 : Int) := q3
      have : c2 = c0 := by omega
      subst this
      exact q2
    refine lv_aload_n hx hb zu_X12_findSoon_313 rfl (lv_at hl 3 rfl) ?_
    refine hw_fboatAt X g4 zu_X12_findSoon_314 ?_
    refine lv_iload_n hx hb zu_X12_findSoon_317 rfl (lv_at hl 2 rfl) ?_
    have eb3 : (h4) bo b0 = (c0 : Int) := by rw [g4.1.2 b0 (by omega)]; exact ec0
    refine hw_iald X hbo zkk_boatAt ⟨rfl, rfl⟩ (by show _ ∧ _ < (6 : Int); rw [tb]; omega) g4.2.2.1 zu_X12_findSoon_318 ?_
    rw [tb, Int.toNat_natCast, eb3]
    refine lv_istore (lv' := [(4, .int (Int32.ofInt (c0 : Int))), (3, .int (Int32.ofInt (T : Int))), (2, .int (Int32.ofInt (sh : Int))), (1, .int (Int32.ofInt (b0 : Int))), (0, .ref (η.1 a))]) hx hb zu_X12_findSoon_319 hl (by decide) rfl (fun ls hl => ?_)
    refine lv_iconst (v := Int32.ofInt 0) hx hb zu_X12_findSoon_321 (by decide) ?_
    refine lv_istore (lv' := [(5, .int (Int32.ofInt ((0 : Nat) : Int))), (4, .int (Int32.ofInt (c0 : Int))), (3, .int (Int32.ofInt (T : Int))), (2, .int (Int32.ofInt (sh : Int))), (1, .int (Int32.ofInt (b0 : Int))), (0, .ref (η.1 a))]) hx hb zu_X12_findSoon_322 hl (by decide) rfl (fun ls hl => ?_)
    refine zfs_j X hKW hf hlo T hT (fun h5 H5 locs5 ls5 g5 hl5 => fin (T : Int) h5 H5 locs5 ls5 (by omega) (by omega) g5 hl5) T 0 c0 h4 H4 locs4 ls (by omega) (by omega) hc64 hSd4 hw1 g4 (lv_sub hl [0, 1, 2, 3, 4, 5] rfl)
theorem zp_X12_findSoon_0 (l : Launch) : zMet zkdm vwCl zTW zKPr l zk_X12_findSoon_0 := by
  intro η D cy L Θ h σ hnd hE hA hV hR
  obtain ⟨x0, x1, x2, x3, x4, x5, rfl⟩ := z_len6 (l := σ) hE.1
  have B0 := hE.2 0 _ rfl
  have B1 := hE.2 1 _ rfl
  have B2 := hE.2 2 _ rfl
  have B3 := hE.2 3 _ rfl
  have B4 := hE.2 4 _ rfl
  have B5 := hE.2 5 _ rfl
  simp only [List.getD_cons_zero, List.getD_cons_succ] at B0 B1 B2 B3 B4 B5
  have ga : zga Θ [x0, x1, x2, x3, x4, x5] (37, 1, 0) := hA (37, 1, 0) List.mem_cons_self
  obtain ⟨ea, na, Θa⟩ := z_nnr (η := η) (kk := 35) (a := (37, 1, 0)) (by decide) hE ga rfl
  simp only [List.getD_cons_zero, List.getD_cons_succ] at ea na Θa
  obtain ⟨a, rfl⟩ : ∃ a : Nat, x1 = (a : Int) := ⟨x1.toNat, by omega⟩
  obtain ⟨b0, rfl⟩ : ∃ a : Nat, x2 = (a : Int) := ⟨x2.toNat, by omega⟩
  obtain ⟨sh, rfl⟩ : ∃ a : Nat, x3 = (a : Int) := ⟨x3.toNat, by omega⟩
  obtain rfl : x0 = 0 := by omega
  simp only [Int.toNat_natCast] at ea Θa
  have V23 := (hV ((35, 1), 23, (0, 4, 0)) List.mem_cons_self).2.2.2.2
  have V24 := (hV ((35, 1), 24, (0, 5, 0)) (List.mem_cons_of_mem _ List.mem_cons_self)).2.2.2.2
  simp only [zev, List.getD_cons_zero, List.getD_cons_succ, Int.toNat_natCast, Int.add_zero] at V23 V24
  have key := zfs_all l η D cy L Θ h a b0 sh x4 x5 hnd Θa B1.2 (by omega) (by omega) (by rw [V23]; exact B4) (by rw [V24]; exact B5) hE
  have e2 : zvo η [0, (a : Int), (b0 : Int), (sh : Int), x4, x5] (0, 2, 0) = .int (Int32.ofInt (b0 : Int)) := by
    show zdec η 0 ((b0 : Int) + 0) = _
    rw [Int.add_zero]
    rfl
  have e3 : zvo η [0, (a : Int), (b0 : Int), (sh : Int), x4, x5] (0, 3, 0) = .int (Int32.ofInt (sh : Int)) := by
    show zdec η 0 ((sh : Int) + 0) = _
    rw [Int.add_zero]
    rfl
  have hmap : zk_X12_findSoon_0.2.2.1.1.map (zvo η [0, (a : Int), (b0 : Int), (sh : Int), x4, x5]) = [.ref (η.1 a), .int (Int32.ofInt (b0 : Int)), .int (Int32.ofInt (sh : Int))] := by
    show List.map (zvo η [0, (a : Int), (b0 : Int), (sh : Int), x4, x5]) [(37, 1, 0), (0, 2, 0), (0, 3, 0)] = _
    simp only [List.map_cons, List.map_nil, ea, e2, e3]
  rw [hmap]
  exact key
end
section
def zk_X12_soon_4 : zCT := ((yX12_soon, cX12_soon, 6, (some .int)), (7, 166), ([(37, 1, 0), (0, 2, 0), (0, 3, 0), (0, 4, 0), (0, 5, 0)], ([(0, 0), (0, 2147483647), (0, 0), ((-2147483648), 2147483647), ((-2147483648), 2147483647), ((-2147483648), 2147483647), (0, 2147483647), (1, 2), (0, 2), (0, 2), (0, 2147483647), (2, 8), (1, 9), (0, 8), (0, 9)], [(0, (37, 1, 0)), (1, (0, 2, 0)), (2, (0, 3, 0)), (3, (0, 4, 0)), (4, (0, 5, 0))], [], [((35, 1), 5, (6, 6, 0)), ((4, 6), 0, (0, 7, 0)), ((4, 6), 1, (0, 8, 0)), ((4, 6), 2, (0, 9, 0)), ((35, 1), 6, (7, 10, 0)), ((5, 10), 0, (0, 11, 0)), ((5, 10), 4, (0, 12, 0)), ((5, 10), 50, (0, 13, 0)), ((5, 10), 54, (0, 14, 0))], [])), [([(0, 0), (0, 2147483647), (0, 0), (0, 5), (0, 5), (0, 39), (0, 2147483647), (1, 2), (0, 2), (0, 2), (0, 2147483647), (2, 8), (1, 9), (0, 8), (0, 9), ((-2147483648), 2147483647)], [], [(0, 15, 0)], [], []), ([(0, 0), (0, 2147483647), (0, 0), ((-2147483648), 2147483647), ((-2147483648), 2147483647), ((-2147483648), 2147483647), (0, 2147483647), (1, 2), (0, 2), (0, 2), (0, 2147483647), (2, 8), (1, 9), (0, 8), (0, 9)], [], [(0, 0, (-1))], [], [])], [(10, 0, 5), (11, 0, 5), (13, 0, 5), (14, 0, 5), (15, 0, 5), (16, 0, 5), (17, 0, 5), (18, 0, 5), (19, 0, 5), (20, 0, 5), (26, 0, 29), (27, 0, 1983), (28, 0, 1983), (35, 0, 0), (35, 23, 29), (35, 34, 35), (35, 49, 49)])
theorem zr_X12_soon_4 : zRC zkdm vwCl zk_X12_soon_4 4 := ⟨by decide +kernel, (37, 1, 0), [(0, 2, 0), (0, 3, 0), (0, 4, 0), (0, 5, 0)], _, TX12, 64, rfl, by decide, by decide +kernel, zkdm_35, rfl, rfl⟩
theorem ze_X12_soon_4_7 (l : Launch) : ∀ C' ∈ [zk_X12_layTold_0], zMet zkdm vwCl zTW zKPr l C' ∧ (zCV zkdm vwCl zTW RX12 cX12_soon 7 166 7 C' ∨ zCS zTW RX12 cX12_soon 7 166 7 C') := (List.forall_mem_cons.mpr ⟨⟨zp_X12_layTold_0 l, Or.inl (zcv_2 zw_X12_layTold zr_X12_layTold_0 424 zt_X12_soon_7 zl_RX12_424 (by decide +kernel) (by decide +kernel))⟩, (List.forall_mem_nil _)⟩)
theorem zt_X12_soon_15 : decode cX12_soon 15 = .ok (.invokevirtual 320, 3) := by decide +kernel
theorem ze_X12_soon_4_15 (l : Launch) : ∀ C' ∈ [zk_X12_isBoat_0], zMet zkdm vwCl zTW zKPr l C' ∧ (zCV zkdm vwCl zTW RX12 cX12_soon 7 166 15 C' ∨ zCS zTW RX12 cX12_soon 7 166 15 C') := (List.forall_mem_cons.mpr ⟨⟨zp_X12_isBoat_0 l, Or.inl (zcv_2 zw_X12_isBoat zr_X12_isBoat_0 320 zt_X12_soon_15 zl_RX12_320 (by decide +kernel) (by decide +kernel))⟩, (List.forall_mem_nil _)⟩)
theorem zt_X12_soon_23 : decode cX12_soon 23 = .ok (.invokevirtual 379, 3) := by decide +kernel
theorem ze_X12_soon_4_23 (l : Launch) : ∀ C' ∈ [zk_X12_isThere_0], zMet zkdm vwCl zTW zKPr l C' ∧ (zCV zkdm vwCl zTW RX12 cX12_soon 7 166 23 C' ∨ zCS zTW RX12 cX12_soon 7 166 23 C') := (List.forall_mem_cons.mpr ⟨⟨zp_X12_isThere_0 l, Or.inl (zcv_2 zw_X12_isThere zr_X12_isThere_0 379 zt_X12_soon_23 zl_RX12_379 (by decide +kernel) (by decide +kernel))⟩, (List.forall_mem_nil _)⟩)
theorem zl_RX12_427 : Cond.methodLink RX12 427 yX12_findSoon ∈ zTW := zTin 1804 (by decide +kernel) rfl
theorem zt_X12_soon_34 : decode cX12_soon 34 = .ok (.invokevirtual 427, 3) := by decide +kernel
theorem ze_X12_soon_4_34 (l : Launch) : ∀ C' ∈ [zk_X12_findSoon_0], zMet zkdm vwCl zTW zKPr l C' ∧ (zCV zkdm vwCl zTW RX12 cX12_soon 7 166 34 C' ∨ zCS zTW RX12 cX12_soon 7 166 34 C') := (List.forall_mem_cons.mpr ⟨⟨zp_X12_findSoon_0 l, Or.inl (zcv_2 zw_X12_findSoon zr_X12_findSoon_0 427 zt_X12_soon_34 zl_RX12_427 (by decide +kernel) (by decide +kernel))⟩, (List.forall_mem_nil _)⟩)
theorem zt_X12_soon_58 : decode cX12_soon 58 = .ok (.invokestatic 129, 3) := by decide +kernel
theorem ze_X12_soon_4_58 (l : Launch) : ∀ C' ∈ [zk_X12_in_16], zMet zkdm vwCl zTW zKPr l C' ∧ (zCV zkdm vwCl zTW RX12 cX12_soon 7 166 58 C' ∨ zCS zTW RX12 cX12_soon 7 166 58 C') := (List.forall_mem_cons.mpr ⟨⟨zp_X12_in_16 l, Or.inr (zcs_of zw_X12_in 129 zt_X12_soon_58 zl_RX12_129 (by decide +kernel) (by decide +kernel) (by decide +kernel))⟩, (List.forall_mem_nil _)⟩)
def zm_X12_soon_4 : zMD := (zc_X12_soon, [(96, 12, 54, none), (117, 12, 0, some .int)], ([], []), [(7, [zk_X12_layTold_0]), (15, [zk_X12_isBoat_0]), (23, [zk_X12_isThere_0]), (34, [zk_X12_findSoon_0]), (58, [zk_X12_in_16])], [], [], [])
set_option maxRecDepth 100000 in
theorem zv_X12_soon_4 : zmeth zkdm zk_X12_soon_4 zm_X12_soon_4 200000 1 = true := by decide +kernel
theorem zp_X12_soon_4 (l : Launch) : zMet zkdm vwCl zTW zKPr l zk_X12_soon_4 := z_met zkpr_ok zTW_good zk_X12_soon_4 zm_X12_soon_4 200000 1 (by decide +kernel) (by decide +kernel) (by decide +kernel) zv_X12_soon_4 zd_X12_soon (List.forall_mem_cons.mpr ⟨zf_RX12_96, (List.forall_mem_cons.mpr ⟨zf_RX12_117, (List.forall_mem_nil _)⟩)⟩) ⟨(List.forall_mem_nil _), (List.forall_mem_nil _)⟩ (List.forall_mem_cons.mpr ⟨ze_X12_soon_4_7 l, (List.forall_mem_cons.mpr ⟨ze_X12_soon_4_15 l, (List.forall_mem_cons.mpr ⟨ze_X12_soon_4_23 l, (List.forall_mem_cons.mpr ⟨ze_X12_soon_4_34 l, (List.forall_mem_cons.mpr ⟨ze_X12_soon_4_58 l, (List.forall_mem_nil _)⟩)⟩)⟩)⟩)⟩) (List.forall_mem_nil _)
def zk_X12_soon_5 : zCT := ((yX12_soon, cX12_soon, 6, (some .int)), (7, 166), ([(37, 1, 0), (0, 2, 0), (0, 3, 0), (0, 4, 0), (0, 5, 0)], ([(0, 0), (0, 2147483647), (1, 1), ((-2147483648), 2147483647), ((-2147483648), 2147483647), ((-2147483648), 2147483647), (0, 2147483647), (2, 2), (0, 2), (0, 2), (0, 2147483647), (0, 8), (0, 9), (2, 8), (1, 9)], [(0, (37, 1, 0)), (1, (0, 2, 0)), (2, (0, 3, 0)), (3, (0, 4, 0)), (4, (0, 5, 0))], [], [((35, 1), 5, (6, 6, 0)), ((4, 6), 0, (0, 7, 0)), ((4, 6), 1, (0, 8, 0)), ((4, 6), 2, (0, 9, 0)), ((35, 1), 6, (7, 10, 0)), ((5, 10), 0, (0, 11, 0)), ((5, 10), 4, (0, 12, 0)), ((5, 10), 50, (0, 13, 0)), ((5, 10), 54, (0, 14, 0))], [])), [([(0, 0), (0, 2147483647), (1, 1), ((-2147483648), 2147483647), ((-2147483648), 2147483647), ((-2147483648), 2147483647), (0, 2147483647), (2, 2), (0, 2), (0, 2), (0, 2147483647), (0, 8), (0, 9), (2, 8), (1, 9)], [], [(0, 0, (-1))], [], []), ([(0, 0), (0, 2147483647), (1, 1), (0, 5), (0, 5), (0, 39), (0, 2147483647), (2, 2), (0, 2), (0, 2), (0, 2147483647), (0, 8), (0, 9), (2, 8), (1, 9), ((-2147483648), 2147483647)], [], [(0, 15, 0)], [], [])], [(10, 0, 5), (11, 0, 5), (13, 0, 5), (14, 0, 5), (15, 0, 5), (16, 0, 5), (17, 0, 5), (18, 0, 5), (19, 0, 5), (20, 0, 5), (26, 0, 29), (27, 0, 1983), (28, 0, 1983), (35, 0, 0), (35, 23, 29), (35, 34, 35), (35, 49, 49)])
theorem zr_X12_soon_5 : zRC zkdm vwCl zk_X12_soon_5 4 := ⟨by decide +kernel, (37, 1, 0), [(0, 2, 0), (0, 3, 0), (0, 4, 0), (0, 5, 0)], _, TX12, 64, rfl, by decide, by decide +kernel, zkdm_35, rfl, rfl⟩
theorem ze_X12_soon_5_7 (l : Launch) : ∀ C' ∈ [zk_X12_layTold_1], zMet zkdm vwCl zTW zKPr l C' ∧ (zCV zkdm vwCl zTW RX12 cX12_soon 7 166 7 C' ∨ zCS zTW RX12 cX12_soon 7 166 7 C') := (List.forall_mem_cons.mpr ⟨⟨zp_X12_layTold_1 l, Or.inl (zcv_2 zw_X12_layTold zr_X12_layTold_1 424 zt_X12_soon_7 zl_RX12_424 (by decide +kernel) (by decide +kernel))⟩, (List.forall_mem_nil _)⟩)
theorem ze_X12_soon_5_15 (l : Launch) : ∀ C' ∈ [zk_X12_isBoat_0], zMet zkdm vwCl zTW zKPr l C' ∧ (zCV zkdm vwCl zTW RX12 cX12_soon 7 166 15 C' ∨ zCS zTW RX12 cX12_soon 7 166 15 C') := (List.forall_mem_cons.mpr ⟨⟨zp_X12_isBoat_0 l, Or.inl (zcv_2 zw_X12_isBoat zr_X12_isBoat_0 320 zt_X12_soon_15 zl_RX12_320 (by decide +kernel) (by decide +kernel))⟩, (List.forall_mem_nil _)⟩)
theorem ze_X12_soon_5_23 (l : Launch) : ∀ C' ∈ [zk_X12_isThere_0], zMet zkdm vwCl zTW zKPr l C' ∧ (zCV zkdm vwCl zTW RX12 cX12_soon 7 166 23 C' ∨ zCS zTW RX12 cX12_soon 7 166 23 C') := (List.forall_mem_cons.mpr ⟨⟨zp_X12_isThere_0 l, Or.inl (zcv_2 zw_X12_isThere zr_X12_isThere_0 379 zt_X12_soon_23 zl_RX12_379 (by decide +kernel) (by decide +kernel))⟩, (List.forall_mem_nil _)⟩)
theorem ze_X12_soon_5_34 (l : Launch) : ∀ C' ∈ [zk_X12_findSoon_0], zMet zkdm vwCl zTW zKPr l C' ∧ (zCV zkdm vwCl zTW RX12 cX12_soon 7 166 34 C' ∨ zCS zTW RX12 cX12_soon 7 166 34 C') := (List.forall_mem_cons.mpr ⟨⟨zp_X12_findSoon_0 l, Or.inl (zcv_2 zw_X12_findSoon zr_X12_findSoon_0 427 zt_X12_soon_34 zl_RX12_427 (by decide +kernel) (by decide +kernel))⟩, (List.forall_mem_nil _)⟩)
theorem ze_X12_soon_5_58 (l : Launch) : ∀ C' ∈ [zk_X12_in_16], zMet zkdm vwCl zTW zKPr l C' ∧ (zCV zkdm vwCl zTW RX12 cX12_soon 7 166 58 C' ∨ zCS zTW RX12 cX12_soon 7 166 58 C') := (List.forall_mem_cons.mpr ⟨⟨zp_X12_in_16 l, Or.inr (zcs_of zw_X12_in 129 zt_X12_soon_58 zl_RX12_129 (by decide +kernel) (by decide +kernel) (by decide +kernel))⟩, (List.forall_mem_nil _)⟩)
def zm_X12_soon_5 : zMD := (zc_X12_soon, [(96, 12, 54, none), (117, 12, 0, some .int)], ([], []), [(7, [zk_X12_layTold_1]), (15, [zk_X12_isBoat_0]), (23, [zk_X12_isThere_0]), (34, [zk_X12_findSoon_0]), (58, [zk_X12_in_16])], [], [], [])
set_option maxRecDepth 100000 in
theorem zv_X12_soon_5 : zmeth zkdm zk_X12_soon_5 zm_X12_soon_5 200000 1 = true := by decide +kernel
theorem zp_X12_soon_5 (l : Launch) : zMet zkdm vwCl zTW zKPr l zk_X12_soon_5 := z_met zkpr_ok zTW_good zk_X12_soon_5 zm_X12_soon_5 200000 1 (by decide +kernel) (by decide +kernel) (by decide +kernel) zv_X12_soon_5 zd_X12_soon (List.forall_mem_cons.mpr ⟨zf_RX12_96, (List.forall_mem_cons.mpr ⟨zf_RX12_117, (List.forall_mem_nil _)⟩)⟩) ⟨(List.forall_mem_nil _), (List.forall_mem_nil _)⟩ (List.forall_mem_cons.mpr ⟨ze_X12_soon_5_7 l, (List.forall_mem_cons.mpr ⟨ze_X12_soon_5_15 l, (List.forall_mem_cons.mpr ⟨ze_X12_soon_5_23 l, (List.forall_mem_cons.mpr ⟨ze_X12_soon_5_34 l, (List.forall_mem_cons.mpr ⟨ze_X12_soon_5_58 l, (List.forall_mem_nil _)⟩)⟩)⟩)⟩)⟩) (List.forall_mem_nil _)
end
section
def zc_X9_findSea : List (Nat × Jvm.ClassFile.Instr × Nat) := [(0, .iload_n 1, 1), (1, .ifCond .lt 13, 3), (4, .iload_n 1, 1), (5, .aload_n 0, 1), (6, .getfield 18, 3), (9, .iconst 0, 1), (10, .iaload, 1), (11, .if_icmp .lt 7, 3), (14, .aconst_null, 1), (15, .goto 9, 3), (18, .aload_n 0, 1), (19, .getfield 25, 3), (22, .iload_n 1, 1), (23, .aaload, 1), (24, .areturn, 1)]
theorem zd_X9_findSea : ∀ q ∈ zc_X9_findSea, decode cX9_findSea q.1 = .ok (q.2.1, q.2.2) := by decide +kernel
set_option maxRecDepth 100000 in
theorem zq_X9_findSea : lw_tbl[835]? = some (.code yX9_findSea cX9_findSea 2 (some (.object "ShoalClaims$Sea"))) := rfl
theorem zw_X9_findSea : zMV yX9_findSea cX9_findSea 2 (some (.object "ShoalClaims$Sea")) 1 := ⟨⟨zTin 102 (by decide +kernel) rfl, zTin 835 zq_X9_findSea rfl, ⟨by decide, by decide⟩, by decide +kernel⟩, zTin 833 (by decide +kernel) rfl, zTin 834 (by decide +kernel) rfl⟩
theorem zf_RX9_18 : zFok RX9 zTW vwCl (18, 9, 1, none) := ⟨RX9, TX9, 7, rfl, zx_9, by decide, zTin 311 (by decide +kernel) rfl, fun _ h => by cases h⟩
theorem zf_RX9_25 : zFok RX9 zTW vwCl (25, 9, 2, none) := ⟨RX9, TX9, 7, rfl, zx_9, by decide, zTin 313 (by decide +kernel) rfl, fun _ h => by cases h⟩
def zk_X9_findSea_0 : zCT := ((yX9_findSea, cX9_findSea, 2, (some (.object "ShoalClaims$Sea"))), (0, 0), ([(30, 1, 0), (0, 2, 0)], ([(0, 0), (0, 2147483647), ((-2147483648), 2147483647)], [(0, (30, 1, 0)), (1, (0, 2, 0))], [], [], [])), [([(0, 0), (0, 2147483647), ((-2147483648), 2147483647)], [], [(2, 0, (-1))], [], []), ([(0, 0), (0, 2147483647), (0, 1), (0, 2147483647)], [], [(17, 3, 0)], [], [])], [])
theorem zr_X9_findSea_0 : zRC zkds vwCl zk_X9_findSea_0 1 := ⟨by decide +kernel, (30, 1, 0), [(0, 2, 0)], _, TX9, 7, rfl, by decide, by decide +kernel, zkd_28, rfl, rfl⟩
def zm_X9_findSea_0 : zMD := (zc_X9_findSea, [(18, 9, 1, none), (25, 9, 2, none)], ([], []), [], [], [], [])
set_option maxRecDepth 100000 in
theorem zv_X9_findSea_0 : zmeth zkds zk_X9_findSea_0 zm_X9_findSea_0 200000 1 = true := by decide +kernel
theorem zp_X9_findSea_0 (l : Launch) : zMet zkds vwCl zTW zKP l zk_X9_findSea_0 := z_met zkp_ok zTW_good zk_X9_findSea_0 zm_X9_findSea_0 200000 1 (by decide +kernel) (by decide +kernel) (by decide +kernel) zv_X9_findSea_0 zd_X9_findSea (List.forall_mem_cons.mpr ⟨zf_RX9_18, (List.forall_mem_cons.mpr ⟨zf_RX9_25, (List.forall_mem_nil _)⟩)⟩) ⟨(List.forall_mem_nil _), (List.forall_mem_nil _)⟩ (List.forall_mem_nil _) (List.forall_mem_nil _)
def zc_X6_hasBoat : List (Nat × Jvm.ClassFile.Instr × Nat) := [(0, .iload_n 1, 1), (1, .ifCond .lt 15, 3), (4, .iload_n 1, 1), (5, .aload_n 0, 1), (6, .getfield 52, 3), (9, .if_icmp .ge 7, 3), (12, .iconst 1, 1), (13, .goto 4, 3), (16, .iconst 0, 1), (17, .ireturn, 1)]
theorem zd_X6_hasBoat : ∀ q ∈ zc_X6_hasBoat, decode cX6_hasBoat q.1 = .ok (q.2.1, q.2.2) := by decide +kernel
set_option maxRecDepth 100000 in
theorem zq_X6_hasBoat : lw_tbl[851]? = some (.code yX6_hasBoat cX6_hasBoat 2 (some .boolean)) := rfl
theorem zw_X6_hasBoat : zMV yX6_hasBoat cX6_hasBoat 2 (some .boolean) 1 := ⟨⟨zTin 104 (by decide +kernel) rfl, zTin 851 zq_X6_hasBoat rfl, ⟨by decide, by decide⟩, by decide +kernel⟩, zTin 849 (by decide +kernel) rfl, zTin 850 (by decide +kernel) rfl⟩
theorem zf_RX6_52 : zFok RX6 zTW vwCl (52, 6, 10, (some .int)) := ⟨RX6, TX6, 15, rfl, zx_6, by decide, zTin 199 (by decide +kernel) rfl, fun ty h => ⟨rfl, tyX6, tyX6_ok, nmX6, by cases h; rfl⟩⟩
def zk_X6_hasBoat_0 : zCT := ((yX6_hasBoat, cX6_hasBoat, 2, (some .boolean)), (0, 0), ([(17, 1, 0), (0, 2, 0)], ([(0, 0), (0, 2147483647), ((-2147483648), 2147483647)], [(0, (17, 1, 0)), (1, (0, 2, 0))], [], [], [])), [([(0, 0), (0, 2147483647), (0, 5)], [], [(0, 0, 1)], [], []), ([(0, 0), (0, 2147483647), ((-2147483648), 2147483647)], [], [(0, 0, 0)], [], [])], [])
theorem zr_X6_hasBoat_0 : zRC zkds vwCl zk_X6_hasBoat_0 1 := ⟨by decide +kernel, (17, 1, 0), [(0, 2, 0)], _, TX6, 15, rfl, by decide, by decide +kernel, zkd_15, rfl, rfl⟩
def zm_X6_hasBoat_0 : zMD := (zc_X6_hasBoat, [(52, 6, 10, some .int)], ([], []), [], [], [], [])
set_option maxRecDepth 100000 in
theorem zv_X6_hasBoat_0 : zmeth zkds zk_X6_hasBoat_0 zm_X6_hasBoat_0 200000 1 = true := by decide +kernel
theorem zp_X6_hasBoat_0 (l : Launch) : zMet zkds vwCl zTW zKP l zk_X6_hasBoat_0 := z_met zkp_ok zTW_good zk_X6_hasBoat_0 zm_X6_hasBoat_0 200000 1 (by decide +kernel) (by decide +kernel) (by decide +kernel) zv_X6_hasBoat_0 zd_X6_hasBoat (List.forall_mem_cons.mpr ⟨zf_RX6_52, (List.forall_mem_nil _)⟩) ⟨(List.forall_mem_nil _), (List.forall_mem_nil _)⟩ (List.forall_mem_nil _) (List.forall_mem_nil _)
def zc_X6_cells : List (Nat × Jvm.ClassFile.Instr × Nat) := [(0, .aload_n 0, 1), (1, .getfield 33, 3), (4, .aload_n 0, 1), (5, .getfield 37, 3), (8, .imul, 1), (9, .ireturn, 1)]
theorem zd_X6_cells : ∀ q ∈ zc_X6_cells, decode cX6_cells q.1 = .ok (q.2.1, q.2.2) := by decide +kernel
set_option maxRecDepth 100000 in
theorem zq_X6_cells : lw_tbl[797]? = some (.code yX6_cells cX6_cells 1 (some .int)) := rfl
theorem zw_X6_cells : zMV yX6_cells cX6_cells 1 (some .int) 0 := ⟨⟨zTin 104 (by decide +kernel) rfl, zTin 797 zq_X6_cells rfl, ⟨by decide, by decide⟩, by decide +kernel⟩, zTin 795 (by decide +kernel) rfl, zTin 796 (by decide +kernel) rfl⟩
theorem zf_RX6_33 : zFok RX6 zTW vwCl (33, 6, 0, (some .int)) := ⟨RX6, TX6, 15, rfl, zx_6, by decide, zTin 160 (by decide +kernel) rfl, fun ty h => ⟨rfl, tyX6, tyX6_ok, nmX6, by cases h; rfl⟩⟩
theorem zf_RX6_37 : zFok RX6 zTW vwCl (37, 6, 1, (some .int)) := ⟨RX6, TX6, 15, rfl, zx_6, by decide, zTin 163 (by decide +kernel) rfl, fun ty h => ⟨rfl, tyX6, tyX6_ok, nmX6, by cases h; rfl⟩⟩
def zk_X6_cells_0 : zCT := ((yX6_cells, cX6_cells, 1, (some .int)), (0, 0), ([(17, 1, 0)], ([(0, 0), (0, 2147483647)], [(0, (17, 1, 0))], [], [], [])), [([(0, 0), (0, 2147483647), (0, 64)], [], [(0, 2, 0)], [], [])], [])
theorem zr_X6_cells_0 : zRC zkds vwCl zk_X6_cells_0 0 := ⟨by decide +kernel, (17, 1, 0), [], _, TX6, 15, rfl, by decide, by decide +kernel, zkd_15, rfl, rfl⟩
def zm_X6_cells_0 : zMD := (zc_X6_cells, [(33, 6, 0, some .int), (37, 6, 1, some .int)], ([], []), [], [], [], [])
set_option maxRecDepth 100000 in
theorem zv_X6_cells_0 : zmeth zkds zk_X6_cells_0 zm_X6_cells_0 200000 1 = true := by decide +kernel
theorem zp_X6_cells_0 (l : Launch) : zMet zkds vwCl zTW zKP l zk_X6_cells_0 := z_met zkp_ok zTW_good zk_X6_cells_0 zm_X6_cells_0 200000 1 (by decide +kernel) (by decide +kernel) (by decide +kernel) zv_X6_cells_0 zd_X6_cells (List.forall_mem_cons.mpr ⟨zf_RX6_33, (List.forall_mem_cons.mpr ⟨zf_RX6_37, (List.forall_mem_nil _)⟩)⟩) ⟨(List.forall_mem_nil _), (List.forall_mem_nil _)⟩ (List.forall_mem_nil _) (List.forall_mem_nil _)
def zc_X6_cost : List (Nat × Jvm.ClassFile.Instr × Nat) := [(0, .aload_n 0, 1), (1, .getfield 33, 3), (4, .iconst 1, 1), (5, .if_icmp .ge 5, 3), (8, .iconst 0, 1), (9, .ireturn, 1), (10, .iload_n 2, 1), (11, .aload_n 0, 1), (12, .getfield 33, 3), (15, .idiv, 1), (16, .iload_n 1, 1), (17, .aload_n 0, 1), (18, .getfield 33, 3), (21, .idiv, 1), (22, .isub, 1), (23, .istore_n 3, 1), (24, .iload_n 2, 1), (25, .aload_n 0, 1), (26, .getfield 33, 3), (29, .irem, 1), (30, .iload_n 1, 1), (31, .aload_n 0, 1), (32, .getfield 33, 3), (35, .irem, 1), (36, .isub, 1), (37, .istore 4, 2), (39, .aload_n 0, 1), (40, .getfield 40, 3), (43, .tableswitch 46 0 2 #[25, 31, 39], 25), (68, .iload_n 3, 1), (69, .istore 5, 2), (71, .goto 22, 3), (74, .iload 4, 2), (76, .ineg, 1), (77, .istore 5, 2), (79, .goto 14, 3), (82, .iload_n 3, 1), (83, .ineg, 1), (84, .istore 5, 2), (86, .goto 7, 3), (89, .iload 4, 2), (91, .istore 5, 2), (93, .iload_n 3, 1), (94, .invokestatic 76, 3), (97, .iload 4, 2), (99, .invokestatic 76, 3), (102, .iadd, 1), (103, .istore 6, 2), (105, .iload 5, 2), (107, .ifCond .le 16, 3), (110, .iload 6, 2), (112, .iload 5, 2), (114, .aload_n 0, 1), (115, .getfield 43, 3), (118, .imul, 1), (119, .iadd, 1), (120, .goto 5, 3), (123, .iload 6, 2), (125, .ireturn, 1)]
theorem zd_X6_cost : ∀ q ∈ zc_X6_cost, decode cX6_cost q.1 = .ok (q.2.1, q.2.2) := by decide +kernel
set_option maxRecDepth 100000 in
theorem zq_X6_cost : lw_tbl[860]? = some (.code yX6_cost cX6_cost 7 (some .int)) := rfl
theorem zw_X6_cost : zMV yX6_cost cX6_cost 7 (some .int) 2 := ⟨⟨zTin 104 (by decide +kernel) rfl, zTin 860 zq_X6_cost rfl, ⟨by decide, by decide⟩, by decide +kernel⟩, zTin 858 (by decide +kernel) rfl, zTin 859 (by decide +kernel) rfl⟩
theorem zf_RX6_40 : zFok RX6 zTW vwCl (40, 6, 2, (some .int)) := ⟨RX6, TX6, 15, rfl, zx_6, by decide, zTin 166 (by decide +kernel) rfl, fun ty h => ⟨rfl, tyX6, tyX6_ok, nmX6, by cases h; rfl⟩⟩
theorem zf_RX6_43 : zFok RX6 zTW vwCl (43, 6, 3, (some .int)) := ⟨RX6, TX6, 15, rfl, zx_6, by decide, zTin 170 (by decide +kernel) rfl, fun ty h => ⟨rfl, tyX6, tyX6_ok, nmX6, by cases h; rfl⟩⟩
def zk_X6_cost_0 : zCT := ((yX6_cost, cX6_cost, 7, (some .int)), (1, 21), ([(17, 1, 0), (0, 2, 0), (0, 3, 0)], ([(0, 0), (0, 2147483647), ((-2147483648), 2147483647), ((-2147483648), 2147483647)], [(0, (17, 1, 0)), (1, (0, 2, 0)), (2, (0, 3, 0))], [], [], [])), [([(0, 0), (0, 2147483647), ((-2147483648), 2147483647), ((-2147483648), 2147483647)], [], [(0, 0, 0)], [], []), ([(0, 0), (0, 2147483647), ((-2147483648), 2147483647), ((-2147483648), 2147483647), ((-2147483648), 2147483647)], [], [(0, 4, 0)], [], [])], [])
theorem zr_X6_cost_0 : zRC zkds vwCl zk_X6_cost_0 2 := ⟨by decide +kernel, (17, 1, 0), [(0, 2, 0), (0, 3, 0)], _, TX6, 15, rfl, by decide, by decide +kernel, zkd_15, rfl, rfl⟩
theorem zl_RX6_76 : Cond.methodLink RX6 76 Lib.Math.abs.name ∈ zTW := zTin 861 (by decide +kernel) rfl
theorem zmi : Cond.initialized "java/lang/Math" ∈ zTW := zTin 119 (by decide +kernel) rfl
theorem zms_abs : Cond.static Lib.Math.abs.name ∈ zTW := zTin 862 (by decide +kernel) rfl
set_option maxRecDepth 100000 in
theorem zmc_abs : Cond.code Lib.Math.abs.name Lib.Math.abs.code 1 (some .int) ∈ zTW := zTin 863 rfl rfl
theorem zt_X6_cost_94 : decode cX6_cost 94 = .ok (.invokestatic 76, 3) := by decide +kernel
theorem zt_X6_cost_99 : decode cX6_cost 99 = .ok (.invokestatic 76, 3) := by decide +kernel
def zm_X6_cost_0 : zMD := (zc_X6_cost, [(33, 6, 0, some .int), (40, 6, 2, some .int), (43, 6, 3, some .int)], ([], []), [], [(94, 3, zo_abs), (99, 3, zo_abs)], [], [])
set_option maxRecDepth 100000 in
theorem zv_X6_cost_0 : zmeth zkds zk_X6_cost_0 zm_X6_cost_0 200000 1 = true := by decide +kernel
theorem zp_X6_cost_0 (l : Launch) : zMet zkds vwCl zTW zKP l zk_X6_cost_0 := z_met zkp_ok zTW_good zk_X6_cost_0 zm_X6_cost_0 200000 1 (by decide +kernel) (by decide +kernel) (by decide +kernel) zv_X6_cost_0 zd_X6_cost (List.forall_mem_cons.mpr ⟨zf_RX6_33, (List.forall_mem_cons.mpr ⟨zf_RX6_40, (List.forall_mem_cons.mpr ⟨zf_RX6_43, (List.forall_mem_nil _)⟩)⟩)⟩) ⟨(List.forall_mem_nil _), (List.forall_mem_nil _)⟩ (List.forall_mem_nil _) (List.forall_mem_cons.mpr ⟨z_spabs zt_X6_cost_94 zl_RX6_76 zms_abs zmi zmc_abs (by decide +kernel) (by decide +kernel), (List.forall_mem_cons.mpr ⟨z_spabs zt_X6_cost_99 zl_RX6_76 zms_abs zmi zmc_abs (by decide +kernel) (by decide +kernel), (List.forall_mem_nil _)⟩)⟩)
def zc_X6_lawOf : List (Nat × Jvm.ClassFile.Instr × Nat) := [(0, .aload_n 0, 1), (1, .getfield 9, 3), (4, .iconst 4, 1), (5, .aload_n 0, 1), (6, .getfield 30, 3), (9, .iload_n 1, 1), (10, .iaload, 1), (11, .imul, 1), (12, .iload_n 2, 1), (13, .iadd, 1), (14, .iaload, 1), (15, .ireturn, 1)]
theorem zd_X6_lawOf : ∀ q ∈ zc_X6_lawOf, decode cX6_lawOf q.1 = .ok (q.2.1, q.2.2) := by decide +kernel
set_option maxRecDepth 100000 in
theorem zq_X6_lawOf : lw_tbl[968]? = some (.code yX6_lawOf cX6_lawOf 3 (some .int)) := rfl
theorem zw_X6_lawOf : zMV yX6_lawOf cX6_lawOf 3 (some .int) 2 := ⟨⟨zTin 104 (by decide +kernel) rfl, zTin 968 zq_X6_lawOf rfl, ⟨by decide, by decide⟩, by decide +kernel⟩, zTin 966 (by decide +kernel) rfl, zTin 967 (by decide +kernel) rfl⟩
theorem zf_RX6_9 : zFok RX6 zTW vwCl (9, 6, 5, none) := ⟨RX6, TX6, 15, rfl, zx_6, by decide, zTin 178 (by decide +kernel) rfl, fun _ h => by cases h⟩
theorem zf_RX6_30 : zFok RX6 zTW vwCl (30, 6, 13, none) := ⟨RX6, TX6, 15, rfl, zx_6, by decide, zTin 212 (by decide +kernel) rfl, fun _ h => by cases h⟩
def zk_X6_lawOf_0 : zCT := ((yX6_lawOf, cX6_lawOf, 3, (some .int)), (0, 0), ([(17, 1, 0), (0, 2, 0), (0, 3, 0)], ([(0, 0), (0, 2147483647), (0, 5), (0, 3)], [(0, (17, 1, 0)), (1, (0, 2, 0)), (2, (0, 3, 0))], [], [], [])), [([(0, 0), (0, 2147483647), (0, 5), (0, 3), ((-2147483648), 2147483647)], [], [(0, 4, 0)], [], [])], [])
theorem zr_X6_lawOf_0 : zRC zkds vwCl zk_X6_lawOf_0 2 := ⟨by decide +kernel, (17, 1, 0), [(0, 2, 0), (0, 3, 0)], _, TX6, 15, rfl, by decide, by decide +kernel, zkd_15, rfl, rfl⟩
def zm_X6_lawOf_0 : zMD := (zc_X6_lawOf, [(9, 6, 5, none), (30, 6, 13, none)], ([], []), [], [], [], [])
set_option maxRecDepth 100000 in
theorem zv_X6_lawOf_0 : zmeth zkds zk_X6_lawOf_0 zm_X6_lawOf_0 200000 1 = true := by decide +kernel
theorem zp_X6_lawOf_0 (l : Launch) : zMet zkds vwCl zTW zKP l zk_X6_lawOf_0 := z_met zkp_ok zTW_good zk_X6_lawOf_0 zm_X6_lawOf_0 200000 1 (by decide +kernel) (by decide +kernel) (by decide +kernel) zv_X6_lawOf_0 zd_X6_lawOf (List.forall_mem_cons.mpr ⟨zf_RX6_9, (List.forall_mem_cons.mpr ⟨zf_RX6_30, (List.forall_mem_nil _)⟩)⟩) ⟨(List.forall_mem_nil _), (List.forall_mem_nil _)⟩ (List.forall_mem_nil _) (List.forall_mem_nil _)
def zc_X6_nearShoals : List (Nat × Jvm.ClassFile.Instr × Nat) := [(0, .iconst 0, 1), (1, .istore_n 3, 1), (2, .iconst 0, 1), (3, .istore 4, 2), (5, .iload 4, 2), (7, .aload_n 0, 1), (8, .getfield 49, 3), (11, .if_icmp .ge 37, 3), (14, .aload_n 0, 1), (15, .iload_n 2, 1), (16, .aload_n 0, 1), (17, .getfield 15, 3), (20, .iload 4, 2), (22, .iaload, 1), (23, .invokevirtual 88, 3), (26, .aload_n 0, 1), (27, .iload_n 1, 1), (28, .iconst 2, 1), (29, .invokevirtual 95, 3), (32, .if_icmp .gt 10, 3), (35, .iload_n 3, 1), (36, .iconst 1, 1), (37, .iload 4, 2), (39, .ishl, 1), (40, .ior, 1), (41, .istore_n 3, 1), (42, .iinc 4 1, 3), (45, .goto (-40), 3), (48, .iload_n 3, 1), (49, .ireturn, 1)]
theorem zd_X6_nearShoals : ∀ q ∈ zc_X6_nearShoals, decode cX6_nearShoals q.1 = .ok (q.2.1, q.2.2) := by decide +kernel
set_option maxRecDepth 100000 in
theorem zq_X6_nearShoals : lw_tbl[1085]? = some (.code yX6_nearShoals cX6_nearShoals 5 (some .int)) := rfl
theorem zw_X6_nearShoals : zMV yX6_nearShoals cX6_nearShoals 5 (some .int) 2 := ⟨⟨zTin 104 (by decide +kernel) rfl, zTin 1085 zq_X6_nearShoals rfl, ⟨by decide, by decide⟩, by decide +kernel⟩, zTin 1083 (by decide +kernel) rfl, zTin 1084 (by decide +kernel) rfl⟩
theorem zf_RX6_15 : zFok RX6 zTW vwCl (15, 6, 7, none) := ⟨RX6, TX6, 15, rfl, zx_6, by decide, zTin 186 (by decide +kernel) rfl, fun _ h => by cases h⟩
theorem zf_RX6_49 : zFok RX6 zTW vwCl (49, 6, 6, (some .int)) := ⟨RX6, TX6, 15, rfl, zx_6, by decide, zTin 183 (by decide +kernel) rfl, fun ty h => ⟨rfl, tyX6, tyX6_ok, nmX6, by cases h; rfl⟩⟩
def zk_X6_nearShoals_0 : zCT := ((yX6_nearShoals, cX6_nearShoals, 5, (some .int)), (2, 47), ([(17, 1, 0), (0, 2, 0), (0, 3, 0)], ([(0, 0), (0, 2147483647), (0, 5), ((-2147483648), 2147483647)], [(0, (17, 1, 0)), (1, (0, 2, 0)), (2, (0, 3, 0))], [], [], [])), [([(0, 0), (0, 2147483647), (0, 5), ((-2147483648), 2147483647), (0, 15)], [], [(0, 4, 0)], [], [])], [])
theorem zr_X6_nearShoals_0 : zRC zkds vwCl zk_X6_nearShoals_0 2 := ⟨by decide +kernel, (17, 1, 0), [(0, 2, 0), (0, 3, 0)], _, TX6, 15, rfl, by decide, by decide +kernel, zkd_15, rfl, rfl⟩
theorem zl_RX6_88 : Cond.methodLink RX6 88 yX6_cost ∈ zTW := zTin 876 (by decide +kernel) rfl
theorem zt_X6_nearShoals_23 : decode cX6_nearShoals 23 = .ok (.invokevirtual 88, 3) := by decide +kernel
theorem ze_X6_nearShoals_0_23 (l : Launch) : ∀ C' ∈ [zk_X6_cost_0], zMet zkds vwCl zTW zKP l C' ∧ (zCV zkds vwCl zTW RX6 cX6_nearShoals 2 47 23 C' ∨ zCS zTW RX6 cX6_nearShoals 2 47 23 C') := (List.forall_mem_cons.mpr ⟨⟨zp_X6_cost_0 l, Or.inl (zcv_2 zw_X6_cost zr_X6_cost_0 88 zt_X6_nearShoals_23 zl_RX6_88 (by decide +kernel) (by decide +kernel))⟩, (List.forall_mem_nil _)⟩)
theorem zl_RX6_95 : Cond.methodLink RX6 95 yX6_lawOf ∈ zTW := zTin 1086 (by decide +kernel) rfl
theorem zt_X6_nearShoals_29 : decode cX6_nearShoals 29 = .ok (.invokevirtual 95, 3) := by decide +kernel
theorem ze_X6_nearShoals_0_29 (l : Launch) : ∀ C' ∈ [zk_X6_lawOf_0], zMet zkds vwCl zTW zKP l C' ∧ (zCV zkds vwCl zTW RX6 cX6_nearShoals 2 47 29 C' ∨ zCS zTW RX6 cX6_nearShoals 2 47 29 C') := (List.forall_mem_cons.mpr ⟨⟨zp_X6_lawOf_0 l, Or.inl (zcv_2 zw_X6_lawOf zr_X6_lawOf_0 95 zt_X6_nearShoals_29 zl_RX6_95 (by decide +kernel) (by decide +kernel))⟩, (List.forall_mem_nil _)⟩)
def zm_X6_nearShoals_0 : zMD := (zc_X6_nearShoals, [(15, 6, 7, none), (49, 6, 6, some .int)], ([], []), [(23, [zk_X6_cost_0]), (29, [zk_X6_lawOf_0])], [], [(5, ([(0, 0), (0, 2147483647), (0, 5), ((-2147483648), 2147483647), (0, 15), (0, 4)], [(0, (17, 1, 0)), (1, (0, 2, 0)), (2, (0, 3, 0)), (3, (0, 4, 0)), (4, (0, 5, 0))], [], [], []), (10989618719621124, [(5, (-1))]))], [])
set_option maxRecDepth 100000 in
theorem zv_X6_nearShoals_0 : zmeth zkds zk_X6_nearShoals_0 zm_X6_nearShoals_0 200000 10989618719621129 = true := by decide +kernel
theorem zp_X6_nearShoals_0 (l : Launch) : zMet zkds vwCl zTW zKP l zk_X6_nearShoals_0 := z_met zkp_ok zTW_good zk_X6_nearShoals_0 zm_X6_nearShoals_0 200000 10989618719621129 (by decide +kernel) (by decide +kernel) (by decide +kernel) zv_X6_nearShoals_0 zd_X6_nearShoals (List.forall_mem_cons.mpr ⟨zf_RX6_15, (List.forall_mem_cons.mpr ⟨zf_RX6_49, (List.forall_mem_nil _)⟩)⟩) ⟨(List.forall_mem_nil _), (List.forall_mem_nil _)⟩ (List.forall_mem_cons.mpr ⟨ze_X6_nearShoals_0_23 l, (List.forall_mem_cons.mpr ⟨ze_X6_nearShoals_0_29 l, (List.forall_mem_nil _)⟩)⟩) (List.forall_mem_nil _)
def zc_X6_hearers : List (Nat × Jvm.ClassFile.Instr × Nat) := [(0, .iconst 0, 1), (1, .istore 5, 2), (3, .iconst 0, 1), (4, .istore 6, 2), (6, .iload 6, 2), (8, .aload_n 0, 1), (9, .getfield 52, 3), (12, .if_icmp .ge 62, 3), (15, .iload 6, 2), (17, .iload_n 1, 1), (18, .if_icmp .eq 19, 3), (21, .aload_n 0, 1), (22, .getfield 55, 3), (25, .iload 6, 2), (27, .ishr, 1), (28, .iconst 1, 1), (29, .iand, 1), (30, .ifCond .ne 7, 3), (33, .iconst 1, 1), (34, .goto 4, 3), (37, .iconst 0, 1), (38, .istore 7, 2), (40, .iload 7, 2), (42, .ifCond .eq 26, 3), (45, .aload_n 0, 1), (46, .iload_n 2, 1), (47, .aload 4, 2), (49, .iload 6, 2), (51, .iaload, 1), (52, .invokevirtual 88, 3), (55, .iload_n 3, 1), (56, .if_icmp .gt 12, 3), (59, .iload 5, 2), (61, .iconst 1, 1), (62, .iload 6, 2), (64, .ishl, 1), (65, .ior, 1), (66, .istore 5, 2), (68, .iinc 6 1, 3), (71, .goto (-65), 3), (74, .iload 5, 2), (76, .ireturn, 1)]
theorem zd_X6_hearers : ∀ q ∈ zc_X6_hearers, decode cX6_hearers q.1 = .ok (q.2.1, q.2.2) := by decide +kernel
set_option maxRecDepth 100000 in
theorem zq_X6_hearers : lw_tbl[875]? = some (.code yX6_hearers cX6_hearers 8 (some .int)) := rfl
theorem zw_X6_hearers : zMV yX6_hearers cX6_hearers 8 (some .int) 4 := ⟨⟨zTin 104 (by decide +kernel) rfl, zTin 875 zq_X6_hearers rfl, ⟨by decide, by decide⟩, by decide +kernel⟩, zTin 873 (by decide +kernel) rfl, zTin 874 (by decide +kernel) rfl⟩
theorem zf_RX6_55 : zFok RX6 zTW vwCl (55, 6, 14, (some .int)) := ⟨RX6, TX6, 15, rfl, zx_6, by decide, zTin 215 (by decide +kernel) rfl, fun ty h => ⟨rfl, tyX6, tyX6_ok, nmX6, by cases h; rfl⟩⟩
def zk_X6_hearers_0 : zCT := ((yX6_hearers, cX6_hearers, 8, (some .int)), (2, 47), ([(17, 1, 0), (0, 2, 0), (0, 3, 0), (0, 4, 0), (14, 5, 0)], ([(0, 0), (0, 2147483647), (0, 5), ((-2147483648), 2147483647), ((-2147483648), 2147483647), (0, 2147483647)], [(0, (17, 1, 0)), (1, (0, 2, 0)), (2, (0, 3, 0)), (3, (0, 4, 0)), (4, (14, 5, 0))], [], [], [])), [([(0, 0), (0, 2147483647), (0, 5), ((-2147483648), 2147483647), ((-2147483648), 2147483647), (0, 2147483647), (0, 63)], [], [(0, 6, 0)], [], [])], [])
theorem zr_X6_hearers_0 : zRC zkds vwCl zk_X6_hearers_0 4 := ⟨by decide +kernel, (17, 1, 0), [(0, 2, 0), (0, 3, 0), (0, 4, 0), (14, 5, 0)], _, TX6, 15, rfl, by decide, by decide +kernel, zkd_15, rfl, rfl⟩
theorem zt_X6_hearers_52 : decode cX6_hearers 52 = .ok (.invokevirtual 88, 3) := by decide +kernel
theorem ze_X6_hearers_0_52 (l : Launch) : ∀ C' ∈ [zk_X6_cost_0], zMet zkds vwCl zTW zKP l C' ∧ (zCV zkds vwCl zTW RX6 cX6_hearers 2 47 52 C' ∨ zCS zTW RX6 cX6_hearers 2 47 52 C') := (List.forall_mem_cons.mpr ⟨⟨zp_X6_cost_0 l, Or.inl (zcv_2 zw_X6_cost zr_X6_cost_0 88 zt_X6_hearers_52 zl_RX6_88 (by decide +kernel) (by decide +kernel))⟩, (List.forall_mem_nil _)⟩)
def zm_X6_hearers_0 : zMD := (zc_X6_hearers, [(52, 6, 10, some .int), (55, 6, 14, some .int)], ([], []), [(52, [zk_X6_cost_0])], [], [(6, ([(0, 0), (0, 2147483647), (0, 5), ((-2147483648), 2147483647), ((-2147483648), 2147483647), (0, 2147483647), (0, 63), (0, 6)], [(0, (17, 1, 0)), (1, (0, 2, 0)), (2, (0, 3, 0)), (3, (0, 4, 0)), (4, (14, 5, 0)), (5, (0, 6, 0)), (6, (0, 7, 0))], [], [], []), (10988519207993350, [(7, (-1))]))], [])
set_option maxRecDepth 100000 in
theorem zv_X6_hearers_0 : zmeth zkds zk_X6_hearers_0 zm_X6_hearers_0 200000 10988519207993357 = true := by decide +kernel
theorem zp_X6_hearers_0 (l : Launch) : zMet zkds vwCl zTW zKP l zk_X6_hearers_0 := z_met zkp_ok zTW_good zk_X6_hearers_0 zm_X6_hearers_0 200000 10988519207993357 (by decide +kernel) (by decide +kernel) (by decide +kernel) zv_X6_hearers_0 zd_X6_hearers (List.forall_mem_cons.mpr ⟨zf_RX6_52, (List.forall_mem_cons.mpr ⟨zf_RX6_55, (List.forall_mem_nil _)⟩)⟩) ⟨(List.forall_mem_nil _), (List.forall_mem_nil _)⟩ (List.forall_mem_cons.mpr ⟨ze_X6_hearers_0_52 l, (List.forall_mem_nil _)⟩) (List.forall_mem_nil _)
def zc_J6_bitCount_0f7a4 : List (Nat × Jvm.ClassFile.Instr × Nat) := [(0, .iload_n 0, 1), (1, .iload_n 0, 1), (2, .iconst 1, 1), (3, .iushr, 1), (4, .ldc_w 265, 3), (7, .iand, 1), (8, .isub, 1), (9, .istore_n 0, 1), (10, .iload_n 0, 1), (11, .ldc_w 266, 3), (14, .iand, 1), (15, .iload_n 0, 1), (16, .iconst 2, 1), (17, .iushr, 1), (18, .ldc_w 266, 3), (21, .iand, 1), (22, .iadd, 1), (23, .istore_n 0, 1), (24, .iload_n 0, 1), (25, .iload_n 0, 1), (26, .iconst 4, 1), (27, .iushr, 1), (28, .iadd, 1), (29, .ldc_w 267, 3), (32, .iand, 1), (33, .istore_n 0, 1), (34, .iload_n 0, 1), (35, .iload_n 0, 1), (36, .bipush 8, 2), (38, .iushr, 1), (39, .iadd, 1), (40, .istore_n 0, 1), (41, .iload_n 0, 1), (42, .iload_n 0, 1), (43, .bipush 16, 2), (45, .iushr, 1), (46, .iadd, 1), (47, .istore_n 0, 1), (48, .iload_n 0, 1), (49, .bipush 63, 2), (51, .iand, 1), (52, .ireturn, 1)]
theorem zd_J6_bitCount_0f7a4 : ∀ q ∈ zc_J6_bitCount_0f7a4, decode cJ6_bitCount_0f7a4 q.1 = .ok (q.2.1, q.2.2) := by decide +kernel
set_option maxRecDepth 100000 in
theorem zq_J6_bitCount_0f7a4 : lw_tbl[895]? = some (.code yJ6_bitCount_0f7a4 cJ6_bitCount_0f7a4 1 (some .int)) := rfl
theorem zw_J6_bitCount_0f7a4 : zMS yJ6_bitCount_0f7a4 cJ6_bitCount_0f7a4 1 (some .int) 1 := ⟨⟨zTin 120 (by decide +kernel) rfl, zTin 895 zq_J6_bitCount_0f7a4 rfl, ⟨by decide, by decide⟩, by decide +kernel⟩, zTin 894 (by decide +kernel) rfl⟩
def zk_J6_bitCount_0f7a4_0 : zCT := ((yJ6_bitCount_0f7a4, cJ6_bitCount_0f7a4, 1, (some .int)), (0, 0), ([(0, 1, 0)], ([(0, 0), ((-2147483648), 2147483647)], [(0, (0, 1, 0))], [], [], [])), [([(0, 0), ((-2147483648), 2147483647), (0, 63)], [], [(0, 2, 0)], [], [])], [])
def zm_J6_bitCount_0f7a4_0 : zMD := (zc_J6_bitCount_0f7a4, [], ([(265, 1431655765), (266, 858993459), (267, 252645135)], []), [], [], [], [])
set_option maxRecDepth 100000 in
theorem zv_J6_bitCount_0f7a4_0 : zmeth zkds zk_J6_bitCount_0f7a4_0 zm_J6_bitCount_0f7a4_0 200000 1 = true := by decide +kernel
theorem zp_J6_bitCount_0f7a4_0 (l : Launch) : zMet zkds vwCl zTW zKP l zk_J6_bitCount_0f7a4_0 := z_met zkp_ok zTW_good zk_J6_bitCount_0f7a4_0 zm_J6_bitCount_0f7a4_0 200000 1 (by decide +kernel) (by decide +kernel) (by decide +kernel) zv_J6_bitCount_0f7a4_0 zd_J6_bitCount_0f7a4 (List.forall_mem_nil _) ⟨(List.forall_mem_cons.mpr ⟨zTin 896 (by decide +kernel) rfl, (List.forall_mem_cons.mpr ⟨zTin 897 (by decide +kernel) rfl, (List.forall_mem_cons.mpr ⟨zTin 898 (by decide +kernel) rfl, (List.forall_mem_nil _)⟩)⟩)⟩), (List.forall_mem_nil _)⟩ (List.forall_mem_nil _) (List.forall_mem_nil _)
def zc_X0_lookFromCells : List (Nat × Jvm.ClassFile.Instr × Nat) := [(0, .iload_n 3, 1), (1, .iconst (-1), 1), (2, .if_icmp .ne 7, 3), (5, .iconst (-1), 1), (6, .goto 8, 3), (9, .iconst 1, 1), (10, .iload_n 3, 1), (11, .ishl, 1), (12, .iconst (-1), 1), (13, .ixor, 1), (14, .istore 5, 2), (16, .aload_n 1, 1), (17, .getfield 30, 3), (20, .iload_n 2, 1), (21, .iaload, 1), (22, .istore 6, 2), (24, .iconst 0, 1), (25, .istore 7, 2), (27, .iload 7, 2), (29, .aload_n 1, 1), (30, .invokevirtual 33, 3), (33, .if_icmp .ge 59, 3), (36, .aload_n 0, 1), (37, .getfield 9, 3), (40, .iload 4, 2), (42, .iload 7, 2), (44, .iadd, 1), (45, .aload_n 1, 1), (46, .iload_n 2, 1), (47, .iload 7, 2), (49, .invokevirtual 37, 3), (52, .iastore, 1), (53, .aload_n 1, 1), (54, .iload_n 2, 1), (55, .iload 7, 2), (57, .iload 6, 2), (59, .aload_n 1, 1), (60, .getfield 41, 3), (63, .invokevirtual 44, 3), (66, .istore 8, 2), (68, .aload_n 0, 1), (69, .getfield 15, 3), (72, .iload 4, 2), (74, .iload 7, 2), (76, .iadd, 1), (77, .iload 8, 2), (79, .iload 5, 2), (81, .iand, 1), (82, .invokestatic 48, 3), (85, .iastore, 1), (86, .iinc 7 1, 3), (89, .goto (-62), 3), (92, .return_, 1)]
theorem zd_X0_lookFromCells : ∀ q ∈ zc_X0_lookFromCells, decode cX0_lookFromCells q.1 = .ok (q.2.1, q.2.2) := by decide +kernel
set_option maxRecDepth 100000 in
theorem zq_X0_lookFromCells : lw_tbl[1080]? = some (.code yX0_lookFromCells cX0_lookFromCells 9 none) := rfl
theorem zw_X0_lookFromCells : zMV yX0_lookFromCells cX0_lookFromCells 9 none 4 := ⟨⟨zTin 111 (by decide +kernel) rfl, zTin 1080 zq_X0_lookFromCells rfl, ⟨by decide, by decide⟩, by decide +kernel⟩, zTin 1079 (by decide +kernel) rfl, zTin 21 (by decide +kernel) rfl⟩
theorem zf_RX0_9 : zFok RX0 zTW vwCl (9, 0, 3, none) := ⟨RX0, TX0, 7, rfl, zx_0, by decide, zTin 528 (by decide +kernel) rfl, fun _ h => by cases h⟩
theorem zf_RX0_15 : zFok RX0 zTW vwCl (15, 0, 4, none) := ⟨RX0, TX0, 7, rfl, zx_0, by decide, zTin 529 (by decide +kernel) rfl, fun _ h => by cases h⟩
theorem zf_RX0_30 : zFok RX0 zTW vwCl (30, 6, 12, none) := ⟨RX6, TX6, 15, rfl, zx_6, by decide, zTin 209 (by decide +kernel) rfl, fun _ h => by cases h⟩
theorem zf_RX0_41 : zFok RX0 zTW vwCl (41, 6, 11, none) := ⟨RX6, TX6, 15, rfl, zx_6, by decide, zTin 205 (by decide +kernel) rfl, fun _ h => by cases h⟩
def zk_X0_lookFromCells_0 : zCT := ((yX0_lookFromCells, cX0_lookFromCells, 9, none), (3, 74), ([(53, 1, 0), (17, 2, 0), (0, 3, 0), (0, 4, 0), (0, 5, 0)], ([(0, 0), (0, 2147483647), (0, 2147483647), (0, 5), ((-1), 5), (0, 64)], [(0, (53, 1, 0)), (1, (17, 2, 0)), (2, (0, 3, 0)), (3, (0, 4, 0)), (4, (0, 5, 0))], [], [], [])), [([(0, 0), (0, 2147483647), (0, 2147483647), (0, 5), ((-1), 5), (0, 64)], [], [], [], [])], [(48, 0, 127), (49, 0, 127)])
theorem zr_X0_lookFromCells_0 : zRC zkds vwCl zk_X0_lookFromCells_0 4 := ⟨by decide +kernel, (53, 1, 0), [(17, 2, 0), (0, 3, 0), (0, 4, 0), (0, 5, 0)], _, TX0, 7, rfl, by decide, by decide +kernel, zkd_51, rfl, rfl⟩
theorem zl_RX0_33 : Cond.methodLink RX0 33 yX6_cells ∈ zTW := zTin 1081 (by decide +kernel) rfl
theorem zt_X0_lookFromCells_30 : decode cX0_lookFromCells 30 = .ok (.invokevirtual 33, 3) := by decide +kernel
theorem ze_X0_lookFromCells_0_30 (l : Launch) : ∀ C' ∈ [zk_X6_cells_0], zMet zkds vwCl zTW zKP l C' ∧ (zCV zkds vwCl zTW RX0 cX0_lookFromCells 3 74 30 C' ∨ zCS zTW RX0 cX0_lookFromCells 3 74 30 C') := (List.forall_mem_cons.mpr ⟨⟨zp_X6_cells_0 l, Or.inl (zcv_2 zw_X6_cells zr_X6_cells_0 33 zt_X0_lookFromCells_30 zl_RX0_33 (by decide +kernel) (by decide +kernel))⟩, (List.forall_mem_nil _)⟩)
theorem zl_RX0_37 : Cond.methodLink RX0 37 yX6_nearShoals ∈ zTW := zTin 1082 (by decide +kernel) rfl
theorem zt_X0_lookFromCells_49 : decode cX0_lookFromCells 49 = .ok (.invokevirtual 37, 3) := by decide +kernel
theorem ze_X0_lookFromCells_0_49 (l : Launch) : ∀ C' ∈ [zk_X6_nearShoals_0], zMet zkds vwCl zTW zKP l C' ∧ (zCV zkds vwCl zTW RX0 cX0_lookFromCells 3 74 49 C' ∨ zCS zTW RX0 cX0_lookFromCells 3 74 49 C') := (List.forall_mem_cons.mpr ⟨⟨zp_X6_nearShoals_0 l, Or.inl (zcv_2 zw_X6_nearShoals zr_X6_nearShoals_0 37 zt_X0_lookFromCells_49 zl_RX0_37 (by decide +kernel) (by decide +kernel))⟩, (List.forall_mem_nil _)⟩)
theorem zl_RX0_44 : Cond.methodLink RX0 44 yX6_hearers ∈ zTW := zTin 1087 (by decide +kernel) rfl
theorem zt_X0_lookFromCells_63 : decode cX0_lookFromCells 63 = .ok (.invokevirtual 44, 3) := by decide +kernel
theorem ze_X0_lookFromCells_0_63 (l : Launch) : ∀ C' ∈ [zk_X6_hearers_0], zMet zkds vwCl zTW zKP l C' ∧ (zCV zkds vwCl zTW RX0 cX0_lookFromCells 3 74 63 C' ∨ zCS zTW RX0 cX0_lookFromCells 3 74 63 C') := (List.forall_mem_cons.mpr ⟨⟨zp_X6_hearers_0 l, Or.inl (zcv_2 zw_X6_hearers zr_X6_hearers_0 44 zt_X0_lookFromCells_63 zl_RX0_44 (by decide +kernel) (by decide +kernel))⟩, (List.forall_mem_nil _)⟩)
theorem zl_RX0_48 : Cond.methodLink RX0 48 yJ6_bitCount_0f7a4 ∈ zTW := zTin 1088 (by decide +kernel) rfl
theorem zt_X0_lookFromCells_82 : decode cX0_lookFromCells 82 = .ok (.invokestatic 48, 3) := by decide +kernel
theorem ze_X0_lookFromCells_0_82 (l : Launch) : ∀ C' ∈ [zk_J6_bitCount_0f7a4_0], zMet zkds vwCl zTW zKP l C' ∧ (zCV zkds vwCl zTW RX0 cX0_lookFromCells 3 74 82 C' ∨ zCS zTW RX0 cX0_lookFromCells 3 74 82 C') := (List.forall_mem_cons.mpr ⟨⟨zp_J6_bitCount_0f7a4_0 l, Or.inr (zcs_of zw_J6_bitCount_0f7a4 48 zt_X0_lookFromCells_82 zl_RX0_48 (by decide +kernel) (by decide +kernel) (by decide +kernel))⟩, (List.forall_mem_nil _)⟩)
def zm_X0_lookFromCells_0 : zMD := (zc_X0_lookFromCells, [(9, 0, 3, none), (15, 0, 4, none), (30, 6, 12, none), (41, 6, 11, none)], ([], []), [(30, [zk_X6_cells_0]), (49, [zk_X6_nearShoals_0]), (63, [zk_X6_hearers_0]), (82, [zk_J6_bitCount_0f7a4_0])], [], [(27, ([(0, 0), (0, 2147483647), (0, 2147483647), (0, 5), ((-1), 5), (0, 64), ((-2147483648), 2147483647), ((-2147483648), 2147483647), (0, 64), (0, 2147483647)], [(0, (53, 1, 0)), (1, (17, 2, 0)), (2, (0, 3, 0)), (4, (0, 5, 0)), (5, (0, 6, 0)), (6, (0, 7, 0)), (7, (0, 8, 0))], [], [((15, 2), 12, (15, 9, 0))], []), (10965429463810112, [(8, (-1))]))], [])
set_option maxRecDepth 100000 in
theorem zv_X0_lookFromCells_0 : zmeth zkds zk_X0_lookFromCells_0 zm_X0_lookFromCells_0 200000 10965429463810177 = true := by decide +kernel
theorem zp_X0_lookFromCells_0 (l : Launch) : zMet zkds vwCl zTW zKP l zk_X0_lookFromCells_0 := z_met zkp_ok zTW_good zk_X0_lookFromCells_0 zm_X0_lookFromCells_0 200000 10965429463810177 (by decide +kernel) (by decide +kernel) (by decide +kernel) zv_X0_lookFromCells_0 zd_X0_lookFromCells (List.forall_mem_cons.mpr ⟨zf_RX0_9, (List.forall_mem_cons.mpr ⟨zf_RX0_15, (List.forall_mem_cons.mpr ⟨zf_RX0_30, (List.forall_mem_cons.mpr ⟨zf_RX0_41, (List.forall_mem_nil _)⟩)⟩)⟩)⟩) ⟨(List.forall_mem_nil _), (List.forall_mem_nil _)⟩ (List.forall_mem_cons.mpr ⟨ze_X0_lookFromCells_0_30 l, (List.forall_mem_cons.mpr ⟨ze_X0_lookFromCells_0_49 l, (List.forall_mem_cons.mpr ⟨ze_X0_lookFromCells_0_63 l, (List.forall_mem_cons.mpr ⟨ze_X0_lookFromCells_0_82 l, (List.forall_mem_nil _)⟩)⟩)⟩)⟩) (List.forall_mem_nil _)
theorem zl_RX0_58 : Cond.methodLink RX0 58 yX0_lookFromCells ∈ zTW := zTin 1077 (by decide +kernel) rfl
theorem zl_RX0_62 : Cond.methodLink RX0 62 yX6_lawOf ∈ zTW := zTin 1093 (by decide +kernel) rfl
theorem zf_RX11_10 : zFok RX11 zTW vwCl (10, 11, 0, none) := ⟨RX11, TX11, 7, rfl, zx_11, by decide, zTin 574 (by decide +kernel) rfl, fun _ h => by cases h⟩
theorem zf_RX11_44 : zFok RX11 zTW vwCl (44, 11, 5, none) := ⟨RX11, TX11, 7, rfl, zx_11, by decide, zTin 579 (by decide +kernel) rfl, fun _ h => by cases h⟩
theorem zl_RX11_93 : Cond.methodLink RX11 93 yX9_findSea ∈ zTW := zTin 832 (by decide +kernel) rfl
theorem zl_RX11_137 : Cond.methodLink RX11 137 yX6_hasBoat ∈ zTW := zTin 848 (by decide +kernel) rfl
end
section
def zc_X6_rowOf : List (Nat × Jvm.ClassFile.Instr × Nat) := [(0, .aload_n 0, 1), (1, .getfield 33, 3), (4, .iconst 1, 1), (5, .if_icmp .ge 7, 3), (8, .iconst 0, 1), (9, .goto 9, 3), (12, .iload_n 1, 1), (13, .aload_n 0, 1), (14, .getfield 33, 3), (17, .idiv, 1), (18, .ireturn, 1)]
theorem zd_X6_rowOf : ∀ q ∈ zc_X6_rowOf, decode cX6_rowOf q.1 = .ok (q.2.1, q.2.2) := by decide +kernel
set_option maxRecDepth 100000 in
theorem zq_X6_rowOf : lw_tbl[955]? = some (.code yX6_rowOf cX6_rowOf 2 (some .int)) := rfl
theorem zw_X6_rowOf : zMV yX6_rowOf cX6_rowOf 2 (some .int) 1 := ⟨⟨zTin 104 (by decide +kernel) rfl, zTin 955 zq_X6_rowOf rfl, ⟨by decide, by decide⟩, by decide +kernel⟩, zTin 953 (by decide +kernel) rfl, zTin 954 (by decide +kernel) rfl⟩
def zk_X6_rowOf_0 : zCT := ((yX6_rowOf, cX6_rowOf, 2, (some .int)), (0, 0), ([(17, 1, 0), (0, 2, 0)], ([(0, 0), (0, 2147483647), ((-2147483648), 2147483647)], [(0, (17, 1, 0)), (1, (0, 2, 0))], [], [], [])), [([(0, 0), (0, 2147483647), ((-2147483648), 2147483647)], [], [(0, 0, 0)], [], []), ([(0, 0), (0, 2147483647), ((-2147483648), 2147483647), ((-2147483648), 2147483647)], [], [(0, 3, 0)], [], [])], [])
theorem zr_X6_rowOf_0 : zRC zkds vwCl zk_X6_rowOf_0 1 := ⟨by decide +kernel, (17, 1, 0), [(0, 2, 0)], _, TX6, 15, rfl, by decide, by decide +kernel, zkd_15, rfl, rfl⟩
def zm_X6_rowOf_0 : zMD := (zc_X6_rowOf, [(33, 6, 0, some .int)], ([], []), [], [], [], [])
set_option maxRecDepth 100000 in
theorem zv_X6_rowOf_0 : zmeth zkds zk_X6_rowOf_0 zm_X6_rowOf_0 200000 1 = true := by decide +kernel
theorem zp_X6_rowOf_0 (l : Launch) : zMet zkds vwCl zTW zKP l zk_X6_rowOf_0 := z_met zkp_ok zTW_good zk_X6_rowOf_0 zm_X6_rowOf_0 200000 1 (by decide +kernel) (by decide +kernel) (by decide +kernel) zv_X6_rowOf_0 zd_X6_rowOf (List.forall_mem_cons.mpr ⟨zf_RX6_33, (List.forall_mem_nil _)⟩) ⟨(List.forall_mem_nil _), (List.forall_mem_nil _)⟩ (List.forall_mem_nil _) (List.forall_mem_nil _)
def zc_X6_columnOf : List (Nat × Jvm.ClassFile.Instr × Nat) := [(0, .aload_n 0, 1), (1, .getfield 33, 3), (4, .iconst 1, 1), (5, .if_icmp .ge 7, 3), (8, .iconst 0, 1), (9, .goto 9, 3), (12, .iload_n 1, 1), (13, .aload_n 0, 1), (14, .getfield 33, 3), (17, .irem, 1), (18, .ireturn, 1)]
theorem zd_X6_columnOf : ∀ q ∈ zc_X6_columnOf, decode cX6_columnOf q.1 = .ok (q.2.1, q.2.2) := by decide +kernel
set_option maxRecDepth 100000 in
theorem zq_X6_columnOf : lw_tbl[959]? = some (.code yX6_columnOf cX6_columnOf 2 (some .int)) := rfl
theorem zw_X6_columnOf : zMV yX6_columnOf cX6_columnOf 2 (some .int) 1 := ⟨⟨zTin 104 (by decide +kernel) rfl, zTin 959 zq_X6_columnOf rfl, ⟨by decide, by decide⟩, by decide +kernel⟩, zTin 957 (by decide +kernel) rfl, zTin 958 (by decide +kernel) rfl⟩
def zk_X6_columnOf_0 : zCT := ((yX6_columnOf, cX6_columnOf, 2, (some .int)), (0, 0), ([(17, 1, 0), (0, 2, 0)], ([(0, 0), (0, 2147483647), ((-2147483648), 2147483647)], [(0, (17, 1, 0)), (1, (0, 2, 0))], [], [], [])), [([(0, 0), (0, 2147483647), ((-2147483648), 2147483647)], [], [(0, 0, 0)], [], []), ([(0, 0), (0, 2147483647), ((-2147483648), 2147483647), ((-7), 7)], [], [(0, 3, 0)], [], [])], [])
theorem zr_X6_columnOf_0 : zRC zkds vwCl zk_X6_columnOf_0 1 := ⟨by decide +kernel, (17, 1, 0), [(0, 2, 0)], _, TX6, 15, rfl, by decide, by decide +kernel, zkd_15, rfl, rfl⟩
def zm_X6_columnOf_0 : zMD := (zc_X6_columnOf, [(33, 6, 0, some .int)], ([], []), [], [], [], [])
set_option maxRecDepth 100000 in
theorem zv_X6_columnOf_0 : zmeth zkds zk_X6_columnOf_0 zm_X6_columnOf_0 200000 1 = true := by decide +kernel
theorem zp_X6_columnOf_0 (l : Launch) : zMet zkds vwCl zTW zKP l zk_X6_columnOf_0 := z_met zkp_ok zTW_good zk_X6_columnOf_0 zm_X6_columnOf_0 200000 1 (by decide +kernel) (by decide +kernel) (by decide +kernel) zv_X6_columnOf_0 zd_X6_columnOf (List.forall_mem_cons.mpr ⟨zf_RX6_33, (List.forall_mem_nil _)⟩) ⟨(List.forall_mem_nil _), (List.forall_mem_nil _)⟩ (List.forall_mem_nil _) (List.forall_mem_nil _)
def zc_X6_beside : List (Nat × Jvm.ClassFile.Instr × Nat) := [(0, .aload_n 0, 1), (1, .iload_n 1, 1), (2, .invokevirtual 72, 3), (5, .istore_n 3, 1), (6, .aload_n 0, 1), (7, .iload_n 1, 1), (8, .invokevirtual 81, 3), (11, .istore 4, 2), (13, .iload_n 2, 1), (14, .tableswitch 98 0 3 #[30, 45, 64, 85], 30), (44, .iload_n 3, 1), (45, .ifCond .le 12, 3), (48, .iload_n 1, 1), (49, .aload_n 0, 1), (50, .getfield 33, 3), (53, .isub, 1), (54, .goto 4, 3), (57, .iconst (-1), 1), (58, .ireturn, 1), (59, .iload 4, 2), (61, .aload_n 0, 1), (62, .getfield 33, 3), (65, .iconst 1, 1), (66, .isub, 1), (67, .if_icmp .ge 9, 3), (70, .iload_n 1, 1), (71, .iconst 1, 1), (72, .iadd, 1), (73, .goto 4, 3), (76, .iconst (-1), 1), (77, .ireturn, 1), (78, .iload_n 3, 1), (79, .aload_n 0, 1), (80, .getfield 37, 3), (83, .iconst 1, 1), (84, .isub, 1), (85, .if_icmp .ge 12, 3), (88, .iload_n 1, 1), (89, .aload_n 0, 1), (90, .getfield 33, 3), (93, .iadd, 1), (94, .goto 4, 3), (97, .iconst (-1), 1), (98, .ireturn, 1), (99, .iload 4, 2), (101, .ifCond .le 9, 3), (104, .iload_n 1, 1), (105, .iconst 1, 1), (106, .isub, 1), (107, .goto 4, 3), (110, .iconst (-1), 1), (111, .ireturn, 1), (112, .iconst (-1), 1), (113, .ireturn, 1)]
theorem zd_X6_beside : ∀ q ∈ zc_X6_beside, decode cX6_beside q.1 = .ok (q.2.1, q.2.2) := by decide +kernel
set_option maxRecDepth 100000 in
theorem zq_X6_beside : lw_tbl[951]? = some (.code yX6_beside cX6_beside 5 (some .int)) := rfl
theorem zw_X6_beside : zMV yX6_beside cX6_beside 5 (some .int) 2 := ⟨⟨zTin 104 (by decide +kernel) rfl, zTin 951 zq_X6_beside rfl, ⟨by decide, by decide⟩, by decide +kernel⟩, zTin 949 (by decide +kernel) rfl, zTin 950 (by decide +kernel) rfl⟩
def zk_X6_beside_0 : zCT := ((yX6_beside, cX6_beside, 5, (some .int)), (1, 21), ([(17, 1, 0), (0, 2, 0), (0, 3, 0)], ([(0, 0), (0, 2147483647), ((-2147483648), 2147483647), ((-2147483648), 2147483647)], [(0, (17, 1, 0)), (1, (0, 2, 0)), (2, (0, 3, 0))], [], [], [])), [([(0, 0), (0, 2147483647), ((-2147483648), 2147483647), ((-2147483648), 2147483647)], [], [(0, 0, (-1))], [], []), ([(0, 0), (0, 2147483647), ((-2147483648), 2147483647), (0, 3), ((-2147483648), 2147483647)], [], [(0, 4, 0)], [], [])], [])
theorem zr_X6_beside_0 : zRC zkds vwCl zk_X6_beside_0 2 := ⟨by decide +kernel, (17, 1, 0), [(0, 2, 0), (0, 3, 0)], _, TX6, 15, rfl, by decide, by decide +kernel, zkd_15, rfl, rfl⟩
theorem zl_RX6_72 : Cond.methodLink RX6 72 yX6_rowOf ∈ zTW := zTin 952 (by decide +kernel) rfl
theorem zt_X6_beside_2 : decode cX6_beside 2 = .ok (.invokevirtual 72, 3) := by decide +kernel
theorem ze_X6_beside_0_2 (l : Launch) : ∀ C' ∈ [zk_X6_rowOf_0], zMet zkds vwCl zTW zKP l C' ∧ (zCV zkds vwCl zTW RX6 cX6_beside 1 21 2 C' ∨ zCS zTW RX6 cX6_beside 1 21 2 C') := (List.forall_mem_cons.mpr ⟨⟨zp_X6_rowOf_0 l, Or.inl (zcv_2 zw_X6_rowOf zr_X6_rowOf_0 72 zt_X6_beside_2 zl_RX6_72 (by decide +kernel) (by decide +kernel))⟩, (List.forall_mem_nil _)⟩)
theorem zl_RX6_81 : Cond.methodLink RX6 81 yX6_columnOf ∈ zTW := zTin 956 (by decide +kernel) rfl
theorem zt_X6_beside_8 : decode cX6_beside 8 = .ok (.invokevirtual 81, 3) := by decide +kernel
theorem ze_X6_beside_0_8 (l : Launch) : ∀ C' ∈ [zk_X6_columnOf_0], zMet zkds vwCl zTW zKP l C' ∧ (zCV zkds vwCl zTW RX6 cX6_beside 1 21 8 C' ∨ zCS zTW RX6 cX6_beside 1 21 8 C') := (List.forall_mem_cons.mpr ⟨⟨zp_X6_columnOf_0 l, Or.inl (zcv_2 zw_X6_columnOf zr_X6_columnOf_0 81 zt_X6_beside_8 zl_RX6_81 (by decide +kernel) (by decide +kernel))⟩, (List.forall_mem_nil _)⟩)
def zm_X6_beside_0 : zMD := (zc_X6_beside, [(33, 6, 0, some .int), (37, 6, 1, some .int)], ([], []), [(2, [zk_X6_rowOf_0]), (8, [zk_X6_columnOf_0])], [], [], [])
set_option maxRecDepth 100000 in
theorem zv_X6_beside_0 : zmeth zkds zk_X6_beside_0 zm_X6_beside_0 200000 1 = true := by decide +kernel
theorem zp_X6_beside_0 (l : Launch) : zMet zkds vwCl zTW zKP l zk_X6_beside_0 := z_met zkp_ok zTW_good zk_X6_beside_0 zm_X6_beside_0 200000 1 (by decide +kernel) (by decide +kernel) (by decide +kernel) zv_X6_beside_0 zd_X6_beside (List.forall_mem_cons.mpr ⟨zf_RX6_33, (List.forall_mem_cons.mpr ⟨zf_RX6_37, (List.forall_mem_nil _)⟩)⟩) ⟨(List.forall_mem_nil _), (List.forall_mem_nil _)⟩ (List.forall_mem_cons.mpr ⟨ze_X6_beside_0_2 l, (List.forall_mem_cons.mpr ⟨ze_X6_beside_0_8 l, (List.forall_mem_nil _)⟩)⟩) (List.forall_mem_nil _)
end
section
def zc_X6_drifted : List (Nat × Jvm.ClassFile.Instr × Nat) := [(0, .aload_n 0, 1), (1, .iload_n 1, 1), (2, .iload_n 2, 1), (3, .invokevirtual 84, 3), (6, .istore_n 3, 1), (7, .iload_n 3, 1), (8, .iconst (-1), 1), (9, .if_icmp .ne 7, 3), (12, .iload_n 1, 1), (13, .goto 4, 3), (16, .iload_n 3, 1), (17, .ireturn, 1)]
theorem zd_X6_drifted : ∀ q ∈ zc_X6_drifted, decode cX6_drifted q.1 = .ok (q.2.1, q.2.2) := by decide +kernel
set_option maxRecDepth 100000 in
theorem zq_X6_drifted : lw_tbl[1028]? = some (.code yX6_drifted cX6_drifted 4 (some .int)) := rfl
theorem zw_X6_drifted : zMV yX6_drifted cX6_drifted 4 (some .int) 2 := ⟨⟨zTin 104 (by decide +kernel) rfl, zTin 1028 zq_X6_drifted rfl, ⟨by decide, by decide⟩, by decide +kernel⟩, zTin 1026 (by decide +kernel) rfl, zTin 1027 (by decide +kernel) rfl⟩
def zk_X6_drifted_0 : zCT := ((yX6_drifted, cX6_drifted, 4, (some .int)), (2, 45), ([(17, 1, 0), (0, 2, 0), (0, 3, 0)], ([(0, 0), (0, 2147483647), ((-2147483648), 2147483647), ((-2147483648), 2147483647)], [(0, (17, 1, 0)), (1, (0, 2, 0)), (2, (0, 3, 0))], [], [], [])), [([(0, 0), (0, 2147483647), ((-2147483648), 2147483647), ((-2147483648), 2147483647), ((-2147483648), 2147483647)], [], [(0, 4, 0)], [], [])], [])
theorem zr_X6_drifted_0 : zRC zkds vwCl zk_X6_drifted_0 2 := ⟨by decide +kernel, (17, 1, 0), [(0, 2, 0), (0, 3, 0)], _, TX6, 15, rfl, by decide, by decide +kernel, zkd_15, rfl, rfl⟩
theorem zl_RX6_84 : Cond.methodLink RX6 84 yX6_beside ∈ zTW := zTin 1029 (by decide +kernel) rfl
theorem zt_X6_drifted_3 : decode cX6_drifted 3 = .ok (.invokevirtual 84, 3) := by decide +kernel
theorem ze_X6_drifted_0_3 (l : Launch) : ∀ C' ∈ [zk_X6_beside_0], zMet zkds vwCl zTW zKP l C' ∧ (zCV zkds vwCl zTW RX6 cX6_drifted 2 45 3 C' ∨ zCS zTW RX6 cX6_drifted 2 45 3 C') := (List.forall_mem_cons.mpr ⟨⟨zp_X6_beside_0 l, Or.inl (zcv_2 zw_X6_beside zr_X6_beside_0 84 zt_X6_drifted_3 zl_RX6_84 (by decide +kernel) (by decide +kernel))⟩, (List.forall_mem_nil _)⟩)
def zm_X6_drifted_0 : zMD := (zc_X6_drifted, [], ([], []), [(3, [zk_X6_beside_0])], [], [], [])
set_option maxRecDepth 100000 in
theorem zv_X6_drifted_0 : zmeth zkds zk_X6_drifted_0 zm_X6_drifted_0 200000 1 = true := by decide +kernel
theorem zp_X6_drifted_0 (l : Launch) : zMet zkds vwCl zTW zKP l zk_X6_drifted_0 := z_met zkp_ok zTW_good zk_X6_drifted_0 zm_X6_drifted_0 200000 1 (by decide +kernel) (by decide +kernel) (by decide +kernel) zv_X6_drifted_0 zd_X6_drifted (List.forall_mem_nil _) ⟨(List.forall_mem_nil _), (List.forall_mem_nil _)⟩ (List.forall_mem_cons.mpr ⟨ze_X6_drifted_0_3 l, (List.forall_mem_nil _)⟩) (List.forall_mem_nil _)
theorem zms_min : Cond.static Lib.Math.min.name ∈ zTW := zTin 936 (by decide +kernel) rfl
set_option maxRecDepth 100000 in
theorem zmc_min : Cond.code Lib.Math.min.name Lib.Math.min.code 2 (some .int) ∈ zTW := zTin 937 rfl rfl
end
