variable {η : zRn}
/-! sureCouples: the loop that goes on as long as something grows -/
theorem zu_X12_sureCouples_2 : decode cX12_sureCouples 2 = .ok (.iload_n 1, 1) := by decide +kernel
theorem zu_X12_sureCouples_3 : decode cX12_sureCouples 3 = .ok (.ifCond .eq 99, 3) := by decide +kernel
theorem zu_X12_sureCouples_6 : decode cX12_sureCouples 6 = .ok (.iconst 0, 1) := by decide +kernel
theorem zu_X12_sureCouples_7 : decode cX12_sureCouples 7 = .ok (.istore_n 1, 1) := by decide +kernel
theorem zu_X12_sureCouples_8 : decode cX12_sureCouples 8 = .ok (.iconst 0, 1) := by decide +kernel
theorem zu_X12_sureCouples_9 : decode cX12_sureCouples 9 = .ok (.istore_n 2, 1) := by decide +kernel
theorem zu_X12_sureCouples_10 : decode cX12_sureCouples 10 = .ok (.iload_n 2, 1) := by decide +kernel
theorem zu_X12_sureCouples_11 : decode cX12_sureCouples 11 = .ok (.aload_n 0, 1) := by decide +kernel
theorem zu_X12_sureCouples_12 : decode cX12_sureCouples 12 = .ok (.getfield 439, 3) := by decide +kernel
theorem zu_X12_sureCouples_15 : decode cX12_sureCouples 15 = .ok (.if_icmp .ge 84, 3) := by decide +kernel
theorem zu_X12_sureCouples_18 : decode cX12_sureCouples 18 = .ok (.aload_n 0, 1) := by decide +kernel
theorem zu_X12_sureCouples_19 : decode cX12_sureCouples 19 = .ok (.getfield 99, 3) := by decide +kernel
theorem zu_X12_sureCouples_22 : decode cX12_sureCouples 22 = .ok (.iload_n 2, 1) := by decide +kernel
theorem zu_X12_sureCouples_23 : decode cX12_sureCouples 23 = .ok (.iaload, 1) := by decide +kernel
theorem zu_X12_sureCouples_24 : decode cX12_sureCouples 24 = .ok (.istore_n 3, 1) := by decide +kernel
theorem zu_X12_sureCouples_25 : decode cX12_sureCouples 25 = .ok (.iconst 0, 1) := by decide +kernel
theorem zu_X12_sureCouples_26 : decode cX12_sureCouples 26 = .ok (.istore 4, 2) := by decide +kernel
theorem zu_X12_sureCouples_28 : decode cX12_sureCouples 28 = .ok (.iload 4, 2) := by decide +kernel
theorem zu_X12_sureCouples_30 : decode cX12_sureCouples 30 = .ok (.aload_n 0, 1) := by decide +kernel
theorem zu_X12_sureCouples_31 : decode cX12_sureCouples 31 = .ok (.getfield 439, 3) := by decide +kernel
theorem zu_X12_sureCouples_34 : decode cX12_sureCouples 34 = .ok (.if_icmp .ge 32, 3) := by decide +kernel
theorem zu_X12_sureCouples_37 : decode cX12_sureCouples 37 = .ok (.iload_n 3, 1) := by decide +kernel
theorem zu_X12_sureCouples_38 : decode cX12_sureCouples 38 = .ok (.iload_n 3, 1) := by decide +kernel
theorem zu_X12_sureCouples_39 : decode cX12_sureCouples 39 = .ok (.iload 4, 2) := by decide +kernel
theorem zu_X12_sureCouples_41 : decode cX12_sureCouples 41 = .ok (.invokestatic 121, 3) := by decide +kernel
theorem zu_X12_sureCouples_44 : decode cX12_sureCouples 44 = .ok (.ifCond .eq 13, 3) := by decide +kernel
theorem zu_X12_sureCouples_47 : decode cX12_sureCouples 47 = .ok (.aload_n 0, 1) := by decide +kernel
theorem zu_X12_sureCouples_48 : decode cX12_sureCouples 48 = .ok (.getfield 99, 3) := by decide +kernel
theorem zu_X12_sureCouples_51 : decode cX12_sureCouples 51 = .ok (.iload 4, 2) := by decide +kernel
theorem zu_X12_sureCouples_53 : decode cX12_sureCouples 53 = .ok (.iaload, 1) := by decide +kernel
theorem zu_X12_sureCouples_54 : decode cX12_sureCouples 54 = .ok (.goto 4, 3) := by decide +kernel
theorem zu_X12_sureCouples_57 : decode cX12_sureCouples 57 = .ok (.iconst 0, 1) := by decide +kernel
theorem zu_X12_sureCouples_58 : decode cX12_sureCouples 58 = .ok (.ior, 1) := by decide +kernel
theorem zu_X12_sureCouples_59 : decode cX12_sureCouples 59 = .ok (.istore_n 3, 1) := by decide +kernel
theorem zu_X12_sureCouples_60 : decode cX12_sureCouples 60 = .ok (.iinc 4 1, 3) := by decide +kernel
theorem zu_X12_sureCouples_63 : decode cX12_sureCouples 63 = .ok (.goto (-35), 3) := by decide +kernel
theorem zu_X12_sureCouples_66 : decode cX12_sureCouples 66 = .ok (.iload_n 1, 1) := by decide +kernel
theorem zu_X12_sureCouples_67 : decode cX12_sureCouples 67 = .ok (.ifCond .ne 13, 3) := by decide +kernel
theorem zu_X12_sureCouples_70 : decode cX12_sureCouples 70 = .ok (.iload_n 3, 1) := by decide +kernel
theorem zu_X12_sureCouples_71 : decode cX12_sureCouples 71 = .ok (.aload_n 0, 1) := by decide +kernel
theorem zu_X12_sureCouples_72 : decode cX12_sureCouples 72 = .ok (.getfield 99, 3) := by decide +kernel
theorem zu_X12_sureCouples_75 : decode cX12_sureCouples 75 = .ok (.iload_n 2, 1) := by decide +kernel
theorem zu_X12_sureCouples_76 : decode cX12_sureCouples 76 = .ok (.iaload, 1) := by decide +kernel
theorem zu_X12_sureCouples_77 : decode cX12_sureCouples 77 = .ok (.if_icmp .eq 7, 3) := by decide +kernel
theorem zu_X12_sureCouples_80 : decode cX12_sureCouples 80 = .ok (.iconst 1, 1) := by decide +kernel
theorem zu_X12_sureCouples_81 : decode cX12_sureCouples 81 = .ok (.goto 4, 3) := by decide +kernel
theorem zu_X12_sureCouples_84 : decode cX12_sureCouples 84 = .ok (.iconst 0, 1) := by decide +kernel
theorem zu_X12_sureCouples_85 : decode cX12_sureCouples 85 = .ok (.istore_n 1, 1) := by decide +kernel
theorem zu_X12_sureCouples_86 : decode cX12_sureCouples 86 = .ok (.aload_n 0, 1) := by decide +kernel
theorem zu_X12_sureCouples_87 : decode cX12_sureCouples 87 = .ok (.getfield 99, 3) := by decide +kernel
theorem zu_X12_sureCouples_90 : decode cX12_sureCouples 90 = .ok (.iload_n 2, 1) := by decide +kernel
theorem zu_X12_sureCouples_91 : decode cX12_sureCouples 91 = .ok (.iload_n 3, 1) := by decide +kernel
theorem zu_X12_sureCouples_92 : decode cX12_sureCouples 92 = .ok (.iastore, 1) := by decide +kernel
theorem zu_X12_sureCouples_93 : decode cX12_sureCouples 93 = .ok (.iinc 2 1, 3) := by decide +kernel
theorem zu_X12_sureCouples_96 : decode cX12_sureCouples 96 = .ok (.goto (-86), 3) := by decide +kernel
theorem zu_X12_sureCouples_99 : decode cX12_sureCouples 99 = .ok (.goto (-97), 3) := by decide +kernel
theorem zu_X12_isIn_0 : decode cX12_isIn 0 = .ok (.iload_n 0, 1) := by decide +kernel
theorem zu_X12_isIn_1 : decode cX12_isIn 1 = .ok (.iload_n 1, 1) := by decide +kernel
theorem zu_X12_isIn_2 : decode cX12_isIn 2 = .ok (.ishr, 1) := by decide +kernel
theorem zu_X12_isIn_3 : decode cX12_isIn 3 = .ok (.iconst 1, 1) := by decide +kernel
theorem zu_X12_isIn_4 : decode cX12_isIn 4 = .ok (.iand, 1) := by decide +kernel
theorem zu_X12_isIn_5 : decode cX12_isIn 5 = .ok (.iconst 1, 1) := by decide +kernel
theorem zu_X12_isIn_6 : decode cX12_isIn 6 = .ok (.if_icmp .ne 7, 3) := by decide +kernel
theorem zu_X12_isIn_9 : decode cX12_isIn 9 = .ok (.iconst 1, 1) := by decide +kernel
theorem zu_X12_isIn_10 : decode cX12_isIn 10 = .ok (.goto 4, 3) := by decide +kernel
theorem zu_X12_isIn_13 : decode cX12_isIn 13 = .ok (.iconst 0, 1) := by decide +kernel
theorem zu_X12_isIn_14 : decode cX12_isIn 14 = .ok (.ireturn, 1) := by decide +kernel
set_option maxRecDepth 100000 in
theorem zqh_X12_isIn : lw_tbl[1643]? = some (.code yX12_isIn cX12_isIn 2 (some .boolean)) := rfl
theorem zwh_X12_isIn : zMS yX12_isIn cX12_isIn 2 (some .boolean) 2 := ⟨⟨zTin 113 (by decide +kernel) rfl, zTin 1643 zqh_X12_isIn rfl, ⟨by decide, by decide⟩, by decide +kernel⟩, zTin 1642 (by decide +kernel) rfl⟩
theorem zyt_121 : Cond.methodLink RX12 121 yX12_isIn ∈ zTW := zTin 1641 (by decide +kernel) rfl
abbrev zKbh : zKD := (1, 0, 9, [(0, 0, 511)])
theorem zkbh : zkdm[29]? = some zKbh := rfl
theorem zty_behind : zty zKM 58 = (31, 0, 2147483647) := by decide +kernel
theorem zty_sayings : zty zKM 56 = (0, 0, 9) := by decide +kernel
theorem zfh_99 : zFok RX12 zTW vwCl (99, 12, 58, none) := ⟨RX12, TX12, 64, rfl, zx_12, by decide, zTin 1357 (by decide +kernel) rfl, fun _ h => by cases h⟩
theorem zfh_439 : zFok RX12 zTW vwCl (439, 12, 56, (some .int)) := ⟨RX12, TX12, 64, rfl, zx_12, by decide, zTin 1355 (by decide +kernel) rfl, fun ty h => ⟨rfl, tyX12, tyX12_ok, nmX12, by cases h; rfl⟩⟩
theorem zisB {v k : Int32} : FrameBlind (va_Pc [.int v, .int k] (fun _ : State => True)) := fun _ _ _ _ q => ⟨q.1, trivial⟩
set_option maxHeartbeats 4000000 in
theorem zS_isIn (l : Launch) (v k : Int32) : Met l yX12_isIn (Cond.code yX12_isIn cX12_isIn 2 (some .boolean) :: zTW) ({ frames := 0, cells := 0, slots := 0, locals := 0 } : Room) (va_Pc [.int v, .int k] (fun _ : State => True)) (vp_Si (fun r => r = 0 ∨ r = 1)) 0 0 (fun _ => False) := by
  refine Met.ofW (cc := cX12_isIn) (maxL := 2) (ret := (some .boolean)) (by decide +kernel) rfl ?_
  intro p e s m args below meth c s₁ B hml hv
  obtain ⟨rfl, -⟩ := hv
  have hx := B.exec
  have hb := B.bytes
  have hr := B.returns
  have hts0 := atoms_spec (ws := Cond.code yX12_isIn cX12_isIn 2 (some .boolean) :: zTW) B.pre
  have hts : ∀ w ∈ zTW, w.before _ s = true := fun w hw => hts0 w (List.mem_cons_of_mem _ hw)
  have hown : s.vm.findClass RX12 = some m.cls := findClass_of_methodNamed B.named
  have hlocks := B.notSynchronized
  have hl := lv_entry ([.int v, .int k]) (n := 2) (Nat.le_of_ble_eq_true rfl)
  rw [lg_entry_eq]
  generalize (lg_sl ([.int v, .int k]) ++ List.replicate (2 - (lg_sl ([.int v, .int k])).length) Slot.unset).toArray = ls at hl ⊢
  have hl : lv_has ls 2 [(0, .int v), (1, .int k)] := hl
  refine lv_iload_n hx hb zu_X12_isIn_0 rfl (lv_at hl 0 rfl) ?_
  refine lv_iload_n hx hb zu_X12_isIn_1 rfl (lv_at hl 1 rfl) ?_
  refine lv_ishr hx hb zu_X12_isIn_2 ?_
  refine lv_iconst (v := 1) hx hb zu_X12_isIn_3 (by decide +kernel) ?_
  refine lv_iand hx hb zu_X12_isIn_4 ?_
  refine lv_iconst (v := 1) hx hb zu_X12_isIn_5 (by decide +kernel) ?_
  refine lv_icmp_ne (tgt := 13) hx hb zu_X12_isIn_6 (by decide) (fun _ => ?_) (fun _ => ?_)
  · refine lv_iconst (v := 0) hx hb zu_X12_isIn_13 (by decide +kernel) ?_
    exact W.zret (v := 0) hx hb hr (by decide +kernel) (fun t ht hW => ⟨0, rfl, Or.inl rfl, ht⟩) (fun _ h => absurd h List.not_mem_nil) zu_X12_isIn_14
  · refine lv_iconst (v := 1) hx hb zu_X12_isIn_9 (by decide +kernel) ?_
    refine lv_goto (tgt := 14) hx hb zu_X12_isIn_10 (by decide) ?_
    exact W.zret (v := 1) hx hb hr (by decide +kernel) (fun t ht hW => ⟨1, rfl, Or.inr rfl, ht⟩) (fun _ h => absurd h List.not_mem_nil) zu_X12_isIn_14
section HWI
variable {D : va_G} {cy : Nat → ClassId} {L : List Nat} {H : Heap} {locs : List Loc}
variable {p : Program} {l : Launch} {e : Env} {R : Room} {s : State} {m : MethodId} {args : Array Value} {below : List Frame} {meth : Method} {c : Code} {Q : State → Prop}
variable {cc : ByteArray} {pc nL : Nat} {ls : Array Slot} {rest : List Value}
theorem hw_isIn (X : hCx D vwCl cy L p s m args c cc nL (tyW cy) zTW RX12) (hsz : ls.size = nL) (hf : 1 ≤ R.frames) (hlo : 21 ≤ R.locals) (hrest : (rest.map (fun v => v.category)).sum ≤ 8) {idx : Nat} {v k : Int32} (hlk : Cond.methodLink RX12 idx yX12_isIn ∈ zTW) (hdg : decode cc pc = .ok (.invokestatic idx, 3))
    (w : ∀ r : Int32, r = 0 ∨ r = 1 → W p l e R s m args below meth c H locs 0 0 Q (F0 m (pc + 3) ls (.int r :: rest))) : W p l e R s m args below meth c H locs 0 0 Q (F0 m pc ls (.int k :: .int v :: rest)) := by
  obtain ⟨hexec, hb, hml, hts, hown, hKa, hT, hnd⟩ := X
  exact pc_i (va_runS (n := 2) (As := [.int v, .int k]) (rest := rest) (bytes := cX12_isIn) (maxL := 2) (ret := some .boolean) ⟨hexec, hb, hml, hown, hts⟩ (zS_isIn l v k) ⟨callB_of _ hts (z_good0 zwh_X12_isIn.1.2.1) rfl rfl rfl (hts _ zwh_X12_isIn.1.1) (hts _ hlk) ⟨zwh_X12_isIn.1.2.2.1.1, zwh_X12_isIn.1.2.2.1.2, zwh_X12_isIn.1.2.2.2⟩ ⟨hf, hlo⟩, hts _ zwh_X12_isIn.2⟩ ⟨zisB, fun U hU hW => ⟨rfl, trivial⟩⟩ rfl rfl hsz rfl (by simpa using hrest) hdg ⟨Nat.zero_le _, Nat.zero_le _⟩) w
end HWI
/-- the sum of the nine -/
def zS9 (h : Nat → Nat → Int) (b : Nat) : Int := h b 0 + h b 1 + h b 2 + h b 3 + h b 4 + h b 5 + h b 6 + h b 7 + h b 8
theorem zS9_up {h : Nat → Nat → Int} {b k : Nat} {x : Int} (hk : k < 9) : zS9 (zup h b k x) b = zS9 h b - h b k + x := by
  unfold zS9
  rcases (show k = 0 ∨ k = 1 ∨ k = 2 ∨ k = 3 ∨ k = 4 ∨ k = 5 ∨ k = 6 ∨ k = 7 ∨ k = 8 by omega) with rfl | rfl | rfl | rfl | rfl | rfl | rfl | rfl | rfl <;> simp [zup] <;> omega
theorem z_or511 {x y : Int} (h1 : 0 ≤ x ∧ x ≤ 511) (h2 : 0 ≤ y ∧ y ≤ 511) : ∃ z : Int, (Int32.ofInt x ||| Int32.ofInt y) = Int32.ofInt z ∧ x ≤ z ∧ z ≤ 511 := by
  have e1 := z_toi (x := x) (by omega) (by omega)
  have e2 := z_toi (x := y) (by omega) (by omega)
  have := z_or (x := Int32.ofInt x) (y := Int32.ofInt y) (n := 511) (by omega) (by omega) (by omega) (by omega) (by omega)
  have em : (zmask 511 : Nat) = 511 := by decide
  rw [em] at this
  exact ⟨(Int32.ofInt x ||| Int32.ofInt y).toInt, (z_ofi _).symm, by omega, by omega⟩
theorem z_bhb {D : va_G} {cy : Nat → ClassId} {L : List Nat} {Θ : Nat → Option Nat} {h : Nat → Nat → Int} {H : Heap} (hH : zH η zkdm D vwCl cy L Θ h H) {b : Nat} (hb : Θ b = some 29) {j : Nat} (hj : j < 9) : 0 ≤ h b j ∧ h b j ≤ 511 := by
  have h1 := zH_in hH hb zkbh (j := j) hj
  have e1 : zty zKbh j = (0, 0, 511) := by unfold zty; simp [Nat.mod_one]
  rw [e1] at h1
  exact h1.2
set_option maxHeartbeats 4000000 in
/-- what is ahead of one, over the others -/
theorem zsc_in {p : Program} {l : Launch} {e : Env} {R : Room} {s : State} {m : MethodId} {args : Array Value} {below : List Frame} {meth : Method} {c : Code} {Q : State → Prop} {D : va_G} {cy : Nat → ClassId} {L : List Nat} {Θ : Nat → Option Nat} (X : hCx D vwCl cy L p s m args c cX12_sureCouples 5 (tyW cy) zTW RX12) (hf : 1 ≤ R.frames) (hlo : 21 ≤ R.locals) {a bh : Nat} (ha : Θ a = some 35) (hb9 : Θ bh = some 29) {h : Nat → Nat → Int} {H : Heap} {locs : List Loc} (hH : zH η zkdm D vwCl cy L Θ h H) (hbh : h a 58 = (bh : Int)) (hn : 0 ≤ h a 56 ∧ h a 56 ≤ 9) (lw : Int) (v1 v2 : Int32)
    (K : ∀ (st : Int) (ls : Array Slot) (i : Int32), lw ≤ st → st ≤ 511 → lv_has ls 5 [(4, .int i), (3, .int (Int32.ofInt st)), (2, .int v2), (1, .int v1), (0, .ref (η.1 a))] → W p l e R s m args below meth c H locs 0 0 Q (F0 m 66 ls [])) :
    ∀ (f : Nat) (i st : Int) (ls : Array Slot), h a 56 - i ≤ (f : Int) → 0 ≤ i → i ≤ h a 56 → 0 ≤ st → lw ≤ st → st ≤ 511 → lv_has ls 5 [(4, .int (Int32.ofInt i)), (3, .int (Int32.ofInt st)), (2, .int v2), (1, .int v1), (0, .ref (η.1 a))] → W p l e R s m args below meth c H locs 0 0 Q (F0 m 28 ls []) := by
  have hx := X.1
  have hb := X.2.1
  intro f
  induction f with
  | zero =>
    intro i st ls hf2 hi0 hi hs0 hs1 hs2 hl
    refine lv_iload hx hb zu_X12_sureCouples_28 (lv_at hl 0 rfl) ?_
    refine lv_aload_n hx hb zu_X12_sureCouples_30 rfl (lv_at hl 4 rfl) ?_
    refine hw_get X zfh_439 ha zkm ⟨rfl, rfl⟩ (by decide) hH zu_X12_sureCouples_31 ?_
    rw [zty_sayings, z_d0]
    refine lv_icmp_ge (tgt := 66) hx hb zu_X12_sureCouples_34 (by decide) (fun _ => ?_) (fun hc => absurd ((z_le32 (by omega) (by omega)).mpr (by omega)) hc)
    exact K st ls _ hs1 hs2 hl
  | succ f ih =>
    intro i st ls hf2 hi0 hi hs0 hs1 hs2 hl
    refine lv_iload hx hb zu_X12_sureCouples_28 (lv_at hl 0 rfl) ?_
    refine lv_aload_n hx hb zu_X12_sureCouples_30 rfl (lv_at hl 4 rfl) ?_
    refine hw_get X zfh_439 ha zkm ⟨rfl, rfl⟩ (by decide) hH zu_X12_sureCouples_31 ?_
    rw [zty_sayings, z_d0]
    refine lv_icmp_ge (tgt := 66) hx hb zu_X12_sureCouples_34 (by decide) (fun _ => K st ls _ hs1 hs2 hl) (fun hc => ?_)
    have hlt : i < h a 56 := by
      apply Int.not_le.mp
      intro q
      exact hc ((z_le32 (by omega) (by omega)).mpr q)
    -- the rest of a turn
    have fin : ∀ x : Int, 0 ≤ x → x ≤ 511 → W p l e R s m args below meth c H locs 0 0 Q (F0 m 58 ls [.int (Int32.ofInt x), .int (Int32.ofInt st)]) := by
      intro x hx0 hx1
      obtain ⟨z, e1, e2, e3⟩ := z_or511 (x := st) (y := x) (by omega) (by omega)
      refine lv_ior hx hb zu_X12_sureCouples_58 ?_
      rw [e1]
      refine lv_istore_n (lv' := [(3, .int (Int32.ofInt z)), (4, .int (Int32.ofInt i)), (2, .int v2), (1, .int v1), (0, .ref (η.1 a))]) hx hb zu_X12_sureCouples_59 rfl hl (by decide) rfl (fun ls hl => ?_)
      have en : Int32.ofInt i + 1 = Int32.ofInt (i + 1) := by rw [show (1 : Int32) = Int32.ofInt 1 from rfl, z_adi (by omega) (by omega) (by omega)]
      refine lv_iinc (v := Int32.ofInt (i + 1)) (lv' := [(4, .int (Int32.ofInt (i + 1))), (3, .int (Int32.ofInt z)), (2, .int v2), (1, .int v1), (0, .ref (η.1 a))]) hx hb zu_X12_sureCouples_60 hl (k := 1) rfl (by rw [← en]; rfl) (by decide) rfl (fun ls hl => ?_)
      refine lv_goto (tgt := 28) hx hb zu_X12_sureCouples_63 (by decide) ?_
      exact ih (i + 1) z ls (by omega) (by omega) (by omega) (by omega) (by omega) e3 hl
    refine lv_iload_n hx hb zu_X12_sureCouples_37 rfl (lv_at hl 1 rfl) ?_
    refine lv_iload_n hx hb zu_X12_sureCouples_38 rfl (lv_at hl 1 rfl) ?_
    refine lv_iload hx hb zu_X12_sureCouples_39 (lv_at hl 0 rfl) ?_
    refine hw_isIn X hl.1 hf hlo (Nat.le_of_ble_eq_true rfl) zyt_121 zu_X12_sureCouples_41 (fun r hr => ?_)
    refine lv_if_eq (tgt := 57) hx hb zu_X12_sureCouples_44 (by decide) (fun _ => ?_) (fun _ => ?_)
    · refine lv_iconst (v := Int32.ofInt 0) hx hb zu_X12_sureCouples_57 (by decide) ?_
      exact fin 0 (by decide) (by decide)
    · refine lv_aload_n hx hb zu_X12_sureCouples_47 rfl (lv_at hl 4 rfl) ?_
      refine hw_get X zfh_99 ha zkm ⟨rfl, rfl⟩ (by decide) hH zu_X12_sureCouples_48 ?_
      rw [zty_behind, hbh]
      simp only
      rw [z_dr 29 bh]
      refine lv_iload hx hb zu_X12_sureCouples_51 (lv_at hl 0 rfl) ?_
      have ti : (Int32.ofInt i).toInt = i := z_toi (by omega) (by omega)
      refine hw_iald X hb9 zkbh ⟨rfl, rfl⟩ (by rw [ti]; exact ⟨hi0, by simp only; omega⟩) hH zu_X12_sureCouples_53 ?_
      refine lv_goto (tgt := 58) hx hb zu_X12_sureCouples_54 (by decide) ?_
      have hbd := z_bhb hH hb9 (j := (Int32.ofInt i).toInt.toNat) (by rw [ti]; omega)
      exact fin _ hbd.1 hbd.2
