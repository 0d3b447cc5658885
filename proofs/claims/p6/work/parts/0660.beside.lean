variable {η : zRn}
/-! beside and moved, to the value -/
theorem zu_X12_beside_0 : decode cX12_beside 0 = .ok (.iload_n 1, 1) := by decide +kernel
theorem zu_X12_beside_1 : decode cX12_beside 1 = .ok (.aload_n 0, 1) := by decide +kernel
theorem zu_X12_beside_2 : decode cX12_beside 2 = .ok (.getfield 289, 3) := by decide +kernel
theorem zu_X12_beside_5 : decode cX12_beside 5 = .ok (.irem, 1) := by decide +kernel
theorem zu_X12_beside_6 : decode cX12_beside 6 = .ok (.iload_n 2, 1) := by decide +kernel
theorem zu_X12_beside_7 : decode cX12_beside 7 = .ok (.iconst 1, 1) := by decide +kernel
theorem zu_X12_beside_8 : decode cX12_beside 8 = .ok (.if_icmp .ne 7, 3) := by decide +kernel
theorem zu_X12_beside_11 : decode cX12_beside 11 = .ok (.iconst 1, 1) := by decide +kernel
theorem zu_X12_beside_12 : decode cX12_beside 12 = .ok (.goto 13, 3) := by decide +kernel
theorem zu_X12_beside_15 : decode cX12_beside 15 = .ok (.iload_n 2, 1) := by decide +kernel
theorem zu_X12_beside_16 : decode cX12_beside 16 = .ok (.iconst 3, 1) := by decide +kernel
theorem zu_X12_beside_17 : decode cX12_beside 17 = .ok (.if_icmp .ne 7, 3) := by decide +kernel
theorem zu_X12_beside_20 : decode cX12_beside 20 = .ok (.iconst (-1), 1) := by decide +kernel
theorem zu_X12_beside_21 : decode cX12_beside 21 = .ok (.goto 4, 3) := by decide +kernel
theorem zu_X12_beside_24 : decode cX12_beside 24 = .ok (.iconst 0, 1) := by decide +kernel
theorem zu_X12_beside_25 : decode cX12_beside 25 = .ok (.iadd, 1) := by decide +kernel
theorem zu_X12_beside_26 : decode cX12_beside 26 = .ok (.istore_n 3, 1) := by decide +kernel
theorem zu_X12_beside_27 : decode cX12_beside 27 = .ok (.iload_n 1, 1) := by decide +kernel
theorem zu_X12_beside_28 : decode cX12_beside 28 = .ok (.aload_n 0, 1) := by decide +kernel
theorem zu_X12_beside_29 : decode cX12_beside 29 = .ok (.getfield 289, 3) := by decide +kernel
theorem zu_X12_beside_32 : decode cX12_beside 32 = .ok (.idiv, 1) := by decide +kernel
theorem zu_X12_beside_33 : decode cX12_beside 33 = .ok (.iload_n 2, 1) := by decide +kernel
theorem zu_X12_beside_34 : decode cX12_beside 34 = .ok (.iconst 2, 1) := by decide +kernel
theorem zu_X12_beside_35 : decode cX12_beside 35 = .ok (.if_icmp .ne 7, 3) := by decide +kernel
theorem zu_X12_beside_38 : decode cX12_beside 38 = .ok (.iconst 1, 1) := by decide +kernel
theorem zu_X12_beside_39 : decode cX12_beside 39 = .ok (.goto 12, 3) := by decide +kernel
theorem zu_X12_beside_42 : decode cX12_beside 42 = .ok (.iload_n 2, 1) := by decide +kernel
theorem zu_X12_beside_43 : decode cX12_beside 43 = .ok (.ifCond .ne 7, 3) := by decide +kernel
theorem zu_X12_beside_46 : decode cX12_beside 46 = .ok (.iconst (-1), 1) := by decide +kernel
theorem zu_X12_beside_47 : decode cX12_beside 47 = .ok (.goto 4, 3) := by decide +kernel
theorem zu_X12_beside_50 : decode cX12_beside 50 = .ok (.iconst 0, 1) := by decide +kernel
theorem zu_X12_beside_51 : decode cX12_beside 51 = .ok (.iadd, 1) := by decide +kernel
theorem zu_X12_beside_52 : decode cX12_beside 52 = .ok (.istore 4, 2) := by decide +kernel
theorem zu_X12_beside_54 : decode cX12_beside 54 = .ok (.iload_n 3, 1) := by decide +kernel
theorem zu_X12_beside_55 : decode cX12_beside 55 = .ok (.iconst 0, 1) := by decide +kernel
theorem zu_X12_beside_56 : decode cX12_beside 56 = .ok (.aload_n 0, 1) := by decide +kernel
theorem zu_X12_beside_57 : decode cX12_beside 57 = .ok (.getfield 289, 3) := by decide +kernel
theorem zu_X12_beside_60 : decode cX12_beside 60 = .ok (.iconst 1, 1) := by decide +kernel
theorem zu_X12_beside_61 : decode cX12_beside 61 = .ok (.isub, 1) := by decide +kernel
theorem zu_X12_beside_62 : decode cX12_beside 62 = .ok (.invokestatic 129, 3) := by decide +kernel
theorem zu_X12_beside_65 : decode cX12_beside 65 = .ok (.ifCond .eq 30, 3) := by decide +kernel
theorem zu_X12_beside_68 : decode cX12_beside 68 = .ok (.iload 4, 2) := by decide +kernel
theorem zu_X12_beside_70 : decode cX12_beside 70 = .ok (.iconst 0, 1) := by decide +kernel
theorem zu_X12_beside_71 : decode cX12_beside 71 = .ok (.aload_n 0, 1) := by decide +kernel
theorem zu_X12_beside_72 : decode cX12_beside 72 = .ok (.getfield 292, 3) := by decide +kernel
theorem zu_X12_beside_75 : decode cX12_beside 75 = .ok (.iconst 1, 1) := by decide +kernel
theorem zu_X12_beside_76 : decode cX12_beside 76 = .ok (.isub, 1) := by decide +kernel
theorem zu_X12_beside_77 : decode cX12_beside 77 = .ok (.invokestatic 129, 3) := by decide +kernel
theorem zu_X12_beside_80 : decode cX12_beside 80 = .ok (.ifCond .eq 15, 3) := by decide +kernel
theorem zu_X12_beside_83 : decode cX12_beside 83 = .ok (.iload 4, 2) := by decide +kernel
theorem zu_X12_beside_85 : decode cX12_beside 85 = .ok (.aload_n 0, 1) := by decide +kernel
theorem zu_X12_beside_86 : decode cX12_beside 86 = .ok (.getfield 289, 3) := by decide +kernel
theorem zu_X12_beside_89 : decode cX12_beside 89 = .ok (.imul, 1) := by decide +kernel
theorem zu_X12_beside_90 : decode cX12_beside 90 = .ok (.iload_n 3, 1) := by decide +kernel
theorem zu_X12_beside_91 : decode cX12_beside 91 = .ok (.iadd, 1) := by decide +kernel
theorem zu_X12_beside_92 : decode cX12_beside 92 = .ok (.goto 4, 3) := by decide +kernel
theorem zu_X12_beside_95 : decode cX12_beside 95 = .ok (.iconst (-1), 1) := by decide +kernel
theorem zu_X12_beside_96 : decode cX12_beside 96 = .ok (.ireturn, 1) := by decide +kernel
theorem zu_X12_moved_0 : decode cX12_moved 0 = .ok (.iload_n 2, 1) := by decide +kernel
theorem zu_X12_moved_1 : decode cX12_moved 1 = .ok (.iconst 4, 1) := by decide +kernel
theorem zu_X12_moved_2 : decode cX12_moved 2 = .ok (.if_icmp .ne 7, 3) := by decide +kernel
theorem zu_X12_moved_5 : decode cX12_moved 5 = .ok (.iload_n 1, 1) := by decide +kernel
theorem zu_X12_moved_6 : decode cX12_moved 6 = .ok (.goto 9, 3) := by decide +kernel
theorem zu_X12_moved_9 : decode cX12_moved 9 = .ok (.aload_n 0, 1) := by decide +kernel
theorem zu_X12_moved_10 : decode cX12_moved 10 = .ok (.iload_n 1, 1) := by decide +kernel
theorem zu_X12_moved_11 : decode cX12_moved 11 = .ok (.iload_n 2, 1) := by decide +kernel
theorem zu_X12_moved_12 : decode cX12_moved 12 = .ok (.invokevirtual 382, 3) := by decide +kernel
theorem zu_X12_moved_15 : decode cX12_moved 15 = .ok (.ireturn, 1) := by decide +kernel
set_option maxRecDepth 100000 in
theorem zqh_X12_beside : lw_tbl[1722]? = some (.code yX12_beside cX12_beside 5 (some .int)) := rfl
theorem zwh_X12_beside : zMV yX12_beside cX12_beside 5 (some .int) 2 := ⟨⟨zTin 113 (by decide +kernel) rfl, zTin 1722 zqh_X12_beside rfl, ⟨by decide, by decide⟩, by decide +kernel⟩, zTin 1721 (by decide +kernel) rfl, zTin 67 (by decide +kernel) rfl⟩
set_option maxRecDepth 100000 in
theorem zqh_X12_moved : lw_tbl[1815]? = some (.code yX12_moved cX12_moved 3 (some .int)) := rfl
theorem zwh_X12_moved : zMV yX12_moved cX12_moved 3 (some .int) 2 := ⟨⟨zTin 113 (by decide +kernel) rfl, zTin 1815 zqh_X12_moved rfl, ⟨by decide, by decide⟩, by decide +kernel⟩, zTin 1814 (by decide +kernel) rfl, zTin 84 (by decide +kernel) rfl⟩
theorem zyt_382 : Cond.methodLink RX12 382 yX12_beside ∈ zTW := zTin 1719 (by decide +kernel) rfl
theorem zty_wide : zty zKM 24 = (0, 0, 8) := by decide +kernel
theorem zty_high : zty zKM 25 = (0, 0, 8) := by decide +kernel
theorem zfh_289 : zFok RX12 zTW vwCl (289, 12, 24, (some .int)) := ⟨RX12, TX12, 64, rfl, zx_12, by decide, zTin 1323 (by decide +kernel) rfl, fun ty h => ⟨rfl, tyX12, tyX12_ok, nmX12, by cases h; rfl⟩⟩
theorem zfh_292 : zFok RX12 zTW vwCl (292, 12, 25, (some .int)) := ⟨RX12, TX12, 64, rfl, zx_12, by decide, zTin 1324 (by decide +kernel) rfl, fun ty h => ⟨rfl, tyX12, tyX12_ok, nmX12, by cases h; rfl⟩⟩
theorem z_f4 : ∀ d : Fin 4, d = 0 ∨ d = 1 ∨ d = 2 ∨ d = 3 := by decide
theorem z_dma : ∀ c : Fin 64, ∀ w : Fin 8, Int32.ofInt (c.val : Int) / Int32.ofInt ((w.val : Int) + 1) = Int32.ofInt ((c.val : Int) / ((w.val : Int) + 1)) ∧ Int32.ofInt (c.val : Int) - Int32.ofInt (c.val : Int) / Int32.ofInt ((w.val : Int) + 1) * Int32.ofInt ((w.val : Int) + 1) = Int32.ofInt ((c.val : Int) % ((w.val : Int) + 1)) := by decide +kernel
theorem z_mla : ∀ x : Fin 65, ∀ y : Fin 65, Int32.ofInt (x.val : Int) * Int32.ofInt (y.val : Int) = Int32.ofInt ((x.val : Int) * (y.val : Int)) := by decide +kernel
/-- the cell beside, by the wide and the high -/
def zbs4 (w hh c d : Int) : Int := if (0 ≤ c % w + (if d = 1 then 1 else if d = 3 then -1 else 0) ∧ c % w + (if d = 1 then 1 else if d = 3 then -1 else 0) ≤ w - 1) ∧ (0 ≤ c / w + (if d = 2 then 1 else if d = 0 then -1 else 0) ∧ c / w + (if d = 2 then 1 else if d = 0 then -1 else 0) ≤ hh - 1) then (c / w + (if d = 2 then 1 else if d = 0 then -1 else 0)) * w + (c % w + (if d = 1 then 1 else if d = 3 then -1 else 0)) else -1
def zmv (w hh c d : Int) : Int := if d = 4 then c else zbs4 w hh c d
theorem z_bs4 {w hh c d : Int} (hw : 1 ≤ w ∧ w ≤ 8) (hh8 : hh ≤ 8) : zbs4 w hh c d = -1 ∨ (0 ≤ zbs4 w hh c d ∧ zbs4 w hh c d < w * hh ∧ zbs4 w hh c d ≤ 63) := by
  unfold zbs4
  generalize c % w + (if d = 1 then 1 else if d = 3 then -1 else 0) = x
  generalize c / w + (if d = 2 then 1 else if d = 0 then -1 else 0) = y
  by_cases hc : (0 ≤ x ∧ x ≤ w - 1) ∧ (0 ≤ y ∧ y ≤ hh - 1)
  · rw [if_pos hc]
    have h1 : 0 ≤ y * w := Int.mul_nonneg (by omega) (by omega)
    have h2 : (y + 1) * w ≤ hh * w := Int.mul_le_mul_of_nonneg_right (by omega) (by omega)
    have h3 : hh * w ≤ 8 * w := Int.mul_le_mul_of_nonneg_right hh8 (by omega)
    rw [Int.add_mul] at h2
    have h4 : w * hh = hh * w := Int.mul_comm _ _
    exact Or.inr ⟨by omega, by omega, by omega⟩
  · rw [if_neg hc]
    exact Or.inl rfl
theorem z_dm {c w : Int} (hc : 0 ≤ c ∧ c ≤ 63) (hw : 1 ≤ w ∧ w ≤ 8) : Int32.ofInt c / Int32.ofInt w = Int32.ofInt (c / w) ∧ Int32.ofInt c - Int32.ofInt c / Int32.ofInt w * Int32.ofInt w = Int32.ofInt (c % w) := by
  have h := z_dma ⟨c.toNat, by omega⟩ ⟨(w - 1).toNat, by omega⟩
  simp only at h
  rw [show ((c.toNat : Nat) : Int) = c by omega, show (((w - 1).toNat : Nat) : Int) + 1 = w by omega] at h
  exact h
theorem z_mli {x y : Int} (h1 : 0 ≤ x ∧ x ≤ 64) (h2 : 0 ≤ y ∧ y ≤ 64) : Int32.ofInt x * Int32.ofInt y = Int32.ofInt (x * y) := by
  have h := z_mla ⟨x.toNat, by omega⟩ ⟨y.toNat, by omega⟩
  simp only at h
  rw [show ((x.toNat : Nat) : Int) = x by omega, show ((y.toNat : Nat) : Int) = y by omega] at h
  exact h
set_option maxHeartbeats 4000000 in
theorem zbs_tail {p : Program} {l : Launch} {e : Env} {R : Room} {s : State} {m : MethodId} {args : Array Value} {below : List Frame} {meth : Method} {c : Code} {D : va_G} {cy : Nat → ClassId} {L : List Nat} {Θ : Nat → Option Nat} (X : hCx D vwCl cy L p s m args c cX12_beside 5 (tyW cy) zTW RX12) (hKW : KW D cy s) {a : Nat} {h : Nat → Nat → Int} (ha : Θ a = some 35) (hH : zH η zkdm D vwCl cy L Θ h s.heap) (hf : 1 ≤ R.frames) (hlo : 22 ≤ R.locals) (hr : meth.sig.returnType = some .int) (hlocks : meth.locks = false) {w cc0 : Int} {dv : Int32} (hwd : h a 24 = w) (hw : 1 ≤ w ∧ w ≤ 8) (hb2 : 0 ≤ h a 25 ∧ h a 25 ≤ 8) (x y : Int) (hx0 : -1 ≤ x ∧ x ≤ 100) (hy0 : -1 ≤ y ∧ y ≤ 100) (ls : Array Slot) (hl : lv_has ls 5 [(4, .int (Int32.ofInt y)), (3, .int (Int32.ofInt x)), (0, .ref (η.1 a)), (1, .int (Int32.ofInt cc0)), (2, .int dv)]) (z : Int) (ez : z = if (0 ≤ x ∧ x ≤ w - 1) ∧ (0 ≤ y ∧ y ≤ h a 25 - 1) then y * w + x else -1) :
    W p l e R s m args below meth c s.heap [] 0 0 (MQ below (vp_Si (fun r => r = Int32.ofInt z)) args s 0 0 (fun _ => False)) (F0 m 54 ls []) := by
  have hx := X.1
  have hb := X.2.1
  refine lv_iload_n hx hb zu_X12_beside_54 rfl (lv_at hl 1 rfl) ?_
  refine lv_iconst (v := Int32.ofInt 0) hx hb zu_X12_beside_55 (by decide) ?_
  refine lv_aload_n hx hb zu_X12_beside_56 rfl (lv_at hl 2 rfl) ?_
  refine hw_get X zfh_289 ha zkm ⟨rfl, rfl⟩ (by decide) hH zu_X12_beside_57 ?_
  rw [zty_wide, z_d0, hwd]
  refine lv_iconst (v := Int32.ofInt 1) hx hb zu_X12_beside_60 (by decide) ?_
  refine lv_isub hx hb zu_X12_beside_61 ?_
  rw [z_sbi (by omega) (by omega) (by omega)]
  refine hw_in X hl.1 hf hlo (Nat.le_of_ble_eq_true rfl) zyt_129 zu_X12_beside_62 ?_
  have none_ : ¬ ((0 ≤ x ∧ x ≤ w - 1) ∧ (0 ≤ y ∧ y ≤ h a 25 - 1)) → W p l e R s m args below meth c s.heap [] 0 0 (MQ below (vp_Si (fun r => r = Int32.ofInt z)) args s 0 0 (fun _ => False)) (F0 m 95 ls []) := by
    intro hq
    rw [if_neg hq] at ez
    refine lv_iconst (v := -1) hx hb zu_X12_beside_95 (by decide) ?_
    exact W.iret (v := -1) hx hb hr (fun t ht hW => ⟨-1, rfl, by rw [ez]; rfl, ht⟩) (fun _ h => absurd h List.not_mem_nil) zu_X12_beside_96
  by_cases h1 : 0 ≤ x ∧ x ≤ w - 1
  · rw [if_pos ((z_in32 (by omega) (by omega) (by omega)).mpr h1)]
    refine lv_if_eq (tgt := 95) hx hb zu_X12_beside_65 (by decide) (fun q => absurd q (by decide)) (fun _ => ?_)
    refine lv_iload hx hb zu_X12_beside_68 (lv_at hl 0 rfl) ?_
    refine lv_iconst (v := Int32.ofInt 0) hx hb zu_X12_beside_70 (by decide) ?_
    refine lv_aload_n hx hb zu_X12_beside_71 rfl (lv_at hl 2 rfl) ?_
    refine hw_get X zfh_292 ha zkm ⟨rfl, rfl⟩ (by decide) hH zu_X12_beside_72 ?_
    rw [zty_high, z_d0]
    refine lv_iconst (v := Int32.ofInt 1) hx hb zu_X12_beside_75 (by decide) ?_
    refine lv_isub hx hb zu_X12_beside_76 ?_
    rw [z_sbi (by omega) (by omega) (by omega)]
    refine hw_in X hl.1 hf hlo (Nat.le_of_ble_eq_true rfl) zyt_129 zu_X12_beside_77 ?_
    by_cases h2 : 0 ≤ y ∧ y ≤ h a 25 - 1
    · rw [if_pos ((z_in32 (by omega) (by omega) (by omega)).mpr h2)]
      refine lv_if_eq (tgt := 95) hx hb zu_X12_beside_80 (by decide) (fun q => absurd q (by decide)) (fun _ => ?_)
      refine lv_iload hx hb zu_X12_beside_83 (lv_at hl 0 rfl) ?_
      refine lv_aload_n hx hb zu_X12_beside_85 rfl (lv_at hl 2 rfl) ?_
      refine hw_get X zfh_289 ha zkm ⟨rfl, rfl⟩ (by decide) hH zu_X12_beside_86 ?_
      rw [zty_wide, z_d0, hwd]
      refine lv_imul hx hb zu_X12_beside_89 ?_
      rw [z_mli (by omega) (by omega)]
      refine lv_iload_n hx hb zu_X12_beside_90 rfl (lv_at hl 1 rfl) ?_
      refine lv_iadd hx hb zu_X12_beside_91 ?_
      have hm1 : 0 ≤ y * w := Int.mul_nonneg (by omega) (by omega)
      have hm2 : y * w ≤ 7 * w := Int.mul_le_mul_of_nonneg_right (by omega) (by omega)
      rw [z_adi (by omega) (by omega) (by omega)]
      refine lv_goto (tgt := 96) hx hb zu_X12_beside_92 (by decide) ?_
      rw [if_pos ⟨h1, h2⟩] at ez
      exact W.iret hx hb hr (fun t ht hW => ⟨_, rfl, by rw [ez], ht⟩) (fun _ h => absurd h List.not_mem_nil) zu_X12_beside_96
    · rw [if_neg (fun q => h2 ((z_in32 (by omega) (by omega) (by omega)).mp q))]
      refine lv_if_eq (tgt := 95) hx hb zu_X12_beside_80 (by decide) (fun _ => none_ (fun q => h2 q.2)) (fun q => absurd rfl q)
  · rw [if_neg (fun q => h1 ((z_in32 (by omega) (by omega) (by omega)).mp q))]
    refine lv_if_eq (tgt := 95) hx hb zu_X12_beside_65 (by decide) (fun _ => none_ (fun q => h1 q.1)) (fun q => absurd rfl q)
set_option maxHeartbeats 16000000 in
theorem zS_beside (l : Launch) (η : zRn) (D : va_G) (cy : Nat → ClassId) (L : List Nat) (Θ : Nat → Option Nat) (h : Nat → Nat → Int) (a : Nat) (ha : Θ a = some 35) (hnd : L.Nodup) (w cc0 : Int) (d : Fin 4) (hwd : h a 24 = w) (hw : 1 ≤ w ∧ w ≤ 8) (hc : 0 ≤ cc0 ∧ cc0 ≤ 63) : Met l yX12_beside (Cond.code yX12_beside cX12_beside 5 (some .int) :: zTW) ({ frames := 1, cells := 0, slots := 0, locals := 22 } : Room) (va_Pc [.ref (η.1 a), .int (Int32.ofInt cc0), .int (Int32.ofInt (d.val : Int))] (fun U : State => zH η zkdm D vwCl cy L Θ h U.heap ∧ KW D cy U)) (vp_Si (fun r => r = Int32.ofInt (zbs4 w (h a 25) cc0 (d.val : Int)))) 0 0 (fun _ => False) := by
  refine Met.ofW (cc := cX12_beside) (maxL := 5) (ret := (some .int)) (by decide +kernel) rfl ?_
  intro p e s m args below meth c s₁ B hml hv
  obtain ⟨rfl, hH, hKW⟩ := hv
  have hx := B.exec
  have hb := B.bytes
  have hr := B.returns
  have hts0 := atoms_spec (ws := Cond.code yX12_beside cX12_beside 5 (some .int) :: zTW) B.pre
  have hts : ∀ w ∈ zTW, w.before _ s = true := fun w hw => hts0 w (List.mem_cons_of_mem _ hw)
  have hown : s.vm.findClass RX12 = some m.cls := findClass_of_methodNamed B.named
  have hlocks := B.notSynchronized
  have hl := lv_entry ([.ref (η.1 a), .int (Int32.ofInt cc0), .int (Int32.ofInt (d.val : Int))]) (n := 5) (Nat.le_of_ble_eq_true rfl)
  rw [lg_entry_eq]
  generalize (lg_sl ([.ref (η.1 a), .int (Int32.ofInt cc0), .int (Int32.ofInt (d.val : Int))]) ++ List.replicate (5 - (lg_sl ([.ref (η.1 a), .int (Int32.ofInt cc0), .int (Int32.ofInt (d.val : Int))])).length) Slot.unset).toArray = ls at hl ⊢
  have hl : lv_has ls 5 [(0, .ref (η.1 a)), (1, .int (Int32.ofInt cc0)), (2, .int (Int32.ofInt (d.val : Int)))] := hl
  have hT := (zkpr_ok.1 η D cy L Θ s hKW).2
  have X : hCx D vwCl cy L p s m _ c cX12_beside 5 (tyW cy) zTW RX12 := ⟨hx, hb, hml, hts, hown, hKW.1, hT, hnd⟩
  have hb2 : 0 ≤ h a 25 ∧ h a 25 ≤ 8 := by
    have h1 := zH_in hH ha zkm (j := 25) (by decide)
    rw [zty_high] at h1
    exact h1.2
  have hw0 : ¬ Int32.ofInt w = 0 := by
    intro q
    have := congrArg Int32.toInt q
    rw [z_toi (by omega) (by omega)] at this
    have e0 : (0 : Int32).toInt = 0 := rfl
    omega
  have hdv : 0 ≤ cc0 / w ∧ cc0 / w ≤ 63 := by
    refine ⟨Int.ediv_nonneg hc.1 (by omega), ?_⟩
    have := Int.ediv_le_self w hc.1
    omega
  have hmv : 0 ≤ cc0 % w ∧ cc0 % w < w := ⟨Int.emod_nonneg _ (by omega), Int.emod_lt_of_pos _ (by omega)⟩
  have hf : 1 ≤ (headSpec (Cond.code yX12_beside cX12_beside 5 (some .int) :: zTW) ({ frames := 1, cells := 0, slots := 0, locals := 22 } : Room)).room.frames := Nat.le_refl 1
  have hlo : 22 ≤ (headSpec (Cond.code yX12_beside cX12_beside 5 (some .int) :: zTW) ({ frames := 1, cells := 0, slots := 0, locals := 22 } : Room)).room.locals := Nat.le_refl 22
  rcases z_f4 d with rfl | rfl | rfl | rfl
  · skip
    refine lv_iload_n hx hb zu_X12_beside_0 rfl (lv_at hl 1 rfl) ?_
    refine lv_aload_n hx hb zu_X12_beside_1 rfl (lv_at hl 0 rfl) ?_
    refine hw_get X zfh_289 ha zkm ⟨rfl, rfl⟩ (by decide) hH zu_X12_beside_2 ?_
    rw [zty_wide, z_d0, hwd]
    refine lv_irem hx hb zu_X12_beside_5 hw0 ?_
    rw [(z_dm hc hw).2]
    refine lv_iload_n hx hb zu_X12_beside_6 rfl (lv_at hl 2 rfl) ?_
    refine lv_iconst (v := 1) hx hb zu_X12_beside_7 (by decide) ?_
    refine lv_icmp_ne (tgt := 15) hx hb zu_X12_beside_8 (by decide) (fun _ => ?_) (fun q => absurd q (by decide))
    refine lv_iload_n hx hb zu_X12_beside_15 rfl (lv_at hl 2 rfl) ?_
    refine lv_iconst (v := 3) hx hb zu_X12_beside_16 (by decide) ?_
    refine lv_icmp_ne (tgt := 24) hx hb zu_X12_beside_17 (by decide) (fun _ => ?_) (fun q => absurd q (by decide))
    refine lv_iconst (v := Int32.ofInt 0) hx hb zu_X12_beside_24 (by decide) ?_
    refine lv_iadd hx hb zu_X12_beside_25 ?_
    rw [z_adi (by omega) (by omega) (by omega)]
    refine lv_istore_n (lv' := [(3, .int (Int32.ofInt (cc0 % w + 0))), (0, .ref (η.1 a)), (1, .int (Int32.ofInt cc0)), (2, .int 0)]) hx hb zu_X12_beside_26 rfl hl (by decide) rfl (fun ls hl => ?_)
    refine lv_iload_n hx hb zu_X12_beside_27 rfl (lv_at hl 2 rfl) ?_
    refine lv_aload_n hx hb zu_X12_beside_28 rfl (lv_at hl 1 rfl) ?_
    refine hw_get X zfh_289 ha zkm ⟨rfl, rfl⟩ (by decide) hH zu_X12_beside_29 ?_
    rw [zty_wide, z_d0, hwd]
    refine lv_idiv hx hb zu_X12_beside_32 hw0 ?_
    rw [(z_dm hc hw).1]
    refine lv_iload_n hx hb zu_X12_beside_33 rfl (lv_at hl 3 rfl) ?_
    refine lv_iconst (v := 2) hx hb zu_X12_beside_34 (by decide) ?_
    refine lv_icmp_ne (tgt := 42) hx hb zu_X12_beside_35 (by decide) (fun _ => ?_) (fun q => absurd q (by decide))
    refine lv_iload_n hx hb zu_X12_beside_42 rfl (lv_at hl 3 rfl) ?_
    refine lv_if_ne (tgt := 50) hx hb zu_X12_beside_43 (by decide) (fun q => absurd rfl q) (fun _ => ?_)
    refine lv_iconst (v := Int32.ofInt (-1)) hx hb zu_X12_beside_46 (by decide) ?_
    refine lv_goto (tgt := 51) hx hb zu_X12_beside_47 (by decide) ?_
    refine lv_iadd hx hb zu_X12_beside_51 ?_
    rw [z_adi (by omega) (by omega) (by omega)]
    refine lv_istore (lv' := [(4, .int (Int32.ofInt (cc0 / w + (-1)))), (3, .int (Int32.ofInt (cc0 % w + 0))), (0, .ref (η.1 a)), (1, .int (Int32.ofInt cc0)), (2, .int 0)]) hx hb zu_X12_beside_52 hl (by decide) rfl (fun ls hl => ?_)
    have ed : zbs4 w (h a 25) cc0 0 = if (0 ≤ cc0 % w + 0 ∧ cc0 % w + 0 ≤ w - 1) ∧ (0 ≤ cc0 / w + (-1) ∧ cc0 / w + (-1) ≤ h a 25 - 1) then (cc0 / w + (-1)) * w + (cc0 % w + 0) else -1 := rfl
    refine zbs_tail X hKW ha hH hf hlo hr hlocks hwd hw hb2 (cc0 % w + 0) (cc0 / w + (-1)) (by omega) (by omega) ls hl (zbs4 w (h a 25) cc0 0) ed
  · skip
    refine lv_iload_n hx hb zu_X12_beside_0 rfl (lv_at hl 1 rfl) ?_
    refine lv_aload_n hx hb zu_X12_beside_1 rfl (lv_at hl 0 rfl) ?_
    refine hw_get X zfh_289 ha zkm ⟨rfl, rfl⟩ (by decide) hH zu_X12_beside_2 ?_
    rw [zty_wide, z_d0, hwd]
    refine lv_irem hx hb zu_X12_beside_5 hw0 ?_
    rw [(z_dm hc hw).2]
    refine lv_iload_n hx hb zu_X12_beside_6 rfl (lv_at hl 2 rfl) ?_
    refine lv_iconst (v := 1) hx hb zu_X12_beside_7 (by decide) ?_
    refine lv_icmp_ne (tgt := 15) hx hb zu_X12_beside_8 (by decide) (fun q => absurd rfl q) (fun _ => ?_)
    refine lv_iconst (v := Int32.ofInt 1) hx hb zu_X12_beside_11 (by decide) ?_
    refine lv_goto (tgt := 25) hx hb zu_X12_beside_12 (by decide) ?_
    refine lv_iadd hx hb zu_X12_beside_25 ?_
    rw [z_adi (by omega) (by omega) (by omega)]
    refine lv_istore_n (lv' := [(3, .int (Int32.ofInt (cc0 % w + 1))), (0, .ref (η.1 a)), (1, .int (Int32.ofInt cc0)), (2, .int 1)]) hx hb zu_X12_beside_26 rfl hl (by decide) rfl (fun ls hl => ?_)
    refine lv_iload_n hx hb zu_X12_beside_27 rfl (lv_at hl 2 rfl) ?_
    refine lv_aload_n hx hb zu_X12_beside_28 rfl (lv_at hl 1 rfl) ?_
    refine hw_get X zfh_289 ha zkm ⟨rfl, rfl⟩ (by decide) hH zu_X12_beside_29 ?_
    rw [zty_wide, z_d0, hwd]
    refine lv_idiv hx hb zu_X12_beside_32 hw0 ?_
    rw [(z_dm hc hw).1]
    refine lv_iload_n hx hb zu_X12_beside_33 rfl (lv_at hl 3 rfl) ?_
    refine lv_iconst (v := 2) hx hb zu_X12_beside_34 (by decide) ?_
    refine lv_icmp_ne (tgt := 42) hx hb zu_X12_beside_35 (by decide) (fun _ => ?_) (fun q => absurd q (by decide))
    refine lv_iload_n hx hb zu_X12_beside_42 rfl (lv_at hl 3 rfl) ?_
    refine lv_if_ne (tgt := 50) hx hb zu_X12_beside_43 (by decide) (fun _ => ?_) (fun q => absurd q (by decide))
    refine lv_iconst (v := Int32.ofInt 0) hx hb zu_X12_beside_50 (by decide) ?_
    refine lv_iadd hx hb zu_X12_beside_51 ?_
    rw [z_adi (by omega) (by omega) (by omega)]
    refine lv_istore (lv' := [(4, .int (Int32.ofInt (cc0 / w + 0))), (3, .int (Int32.ofInt (cc0 % w + 1))), (0, .ref (η.1 a)), (1, .int (Int32.ofInt cc0)), (2, .int 1)]) hx hb zu_X12_beside_52 hl (by decide) rfl (fun ls hl => ?_)
    have ed : zbs4 w (h a 25) cc0 1 = if (0 ≤ cc0 % w + 1 ∧ cc0 % w + 1 ≤ w - 1) ∧ (0 ≤ cc0 / w + 0 ∧ cc0 / w + 0 ≤ h a 25 - 1) then (cc0 / w + 0) * w + (cc0 % w + 1) else -1 := rfl
    refine zbs_tail X hKW ha hH hf hlo hr hlocks hwd hw hb2 (cc0 % w + 1) (cc0 / w + 0) (by omega) (by omega) ls hl (zbs4 w (h a 25) cc0 1) ed
  · skip
    refine lv_iload_n hx hb zu_X12_beside_0 rfl (lv_at hl 1 rfl) ?_
    refine lv_aload_n hx hb zu_X12_beside_1 rfl (lv_at hl 0 rfl) ?_
    refine hw_get X zfh_289 ha zkm ⟨rfl, rfl⟩ (by decide) hH zu_X12_beside_2 ?_
    rw [zty_wide, z_d0, hwd]
    refine lv_irem hx hb zu_X12_beside_5 hw0 ?_
    rw [(z_dm hc hw).2]
    refine lv_iload_n hx hb zu_X12_beside_6 rfl (lv_at hl 2 rfl) ?_
    refine lv_iconst (v := 1) hx hb zu_X12_beside_7 (by decide) ?_
    refine lv_icmp_ne (tgt := 15) hx hb zu_X12_beside_8 (by decide) (fun _ => ?_) (fun q => absurd q (by decide))
    refine lv_iload_n hx hb zu_X12_beside_15 rfl (lv_at hl 2 rfl) ?_
    refine lv_iconst (v := 3) hx hb zu_X12_beside_16 (by decide) ?_
    refine lv_icmp_ne (tgt := 24) hx hb zu_X12_beside_17 (by decide) (fun _ => ?_) (fun q => absurd q (by decide))
    refine lv_iconst (v := Int32.ofInt 0) hx hb zu_X12_beside_24 (by decide) ?_
    refine lv_iadd hx hb zu_X12_beside_25 ?_
    rw [z_adi (by omega) (by omega) (by omega)]
    refine lv_istore_n (lv' := [(3, .int (Int32.ofInt (cc0 % w + 0))), (0, .ref (η.1 a)), (1, .int (Int32.ofInt cc0)), (2, .int 2)]) hx hb zu_X12_beside_26 rfl hl (by decide) rfl (fun ls hl => ?_)
    refine lv_iload_n hx hb zu_X12_beside_27 rfl (lv_at hl 2 rfl) ?_
    refine lv_aload_n hx hb zu_X12_beside_28 rfl (lv_at hl 1 rfl) ?_
    refine hw_get X zfh_289 ha zkm ⟨rfl, rfl⟩ (by decide) hH zu_X12_beside_29 ?_
    rw [zty_wide, z_d0, hwd]
    refine lv_idiv hx hb zu_X12_beside_32 hw0 ?_
    rw [(z_dm hc hw).1]
    refine lv_iload_n hx hb zu_X12_beside_33 rfl (lv_at hl 3 rfl) ?_
    refine lv_iconst (v := 2) hx hb zu_X12_beside_34 (by decide) ?_
    refine lv_icmp_ne (tgt := 42) hx hb zu_X12_beside_35 (by decide) (fun q => absurd rfl q) (fun _ => ?_)
    refine lv_iconst (v := Int32.ofInt 1) hx hb zu_X12_beside_38 (by decide) ?_
    refine lv_goto (tgt := 51) hx hb zu_X12_beside_39 (by decide) ?_
    refine lv_iadd hx hb zu_X12_beside_51 ?_
    rw [z_adi (by omega) (by omega) (by omega)]
    refine lv_istore (lv' := [(4, .int (Int32.ofInt (cc0 / w + 1))), (3, .int (Int32.ofInt (cc0 % w + 0))), (0, .ref (η.1 a)), (1, .int (Int32.ofInt cc0)), (2, .int 2)]) hx hb zu_X12_beside_52 hl (by decide) rfl (fun ls hl => ?_)
    have ed : zbs4 w (h a 25) cc0 2 = if (0 ≤ cc0 % w + 0 ∧ cc0 % w + 0 ≤ w - 1) ∧ (0 ≤ cc0 / w + 1 ∧ cc0 / w + 1 ≤ h a 25 - 1) then (cc0 / w + 1) * w + (cc0 % w + 0) else -1 := rfl
    refine zbs_tail X hKW ha hH hf hlo hr hlocks hwd hw hb2 (cc0 % w + 0) (cc0 / w + 1) (by omega) (by omega) ls hl (zbs4 w (h a 25) cc0 2) ed
  · skip
    refine lv_iload_n hx hb zu_X12_beside_0 rfl (lv_at hl 1 rfl) ?_
    refine lv_aload_n hx hb zu_X12_beside_1 rfl (lv_at hl 0 rfl) ?_
    refine hw_get X zfh_289 ha zkm ⟨rfl, rfl⟩ (by decide) hH zu_X12_beside_2 ?_
    rw [zty_wide, z_d0, hwd]
    refine lv_irem hx hb zu_X12_beside_5 hw0 ?_
    rw [(z_dm hc hw).2]
    refine lv_iload_n hx hb zu_X12_beside_6 rfl (lv_at hl 2 rfl) ?_
    refine lv_iconst (v := 1) hx hb zu_X12_beside_7 (by decide) ?_
    refine lv_icmp_ne (tgt := 15) hx hb zu_X12_beside_8 (by decide) (fun _ => ?_) (fun q => absurd q (by decide))
    refine lv_iload_n hx hb zu_X12_beside_15 rfl (lv_at hl 2 rfl) ?_
    refine lv_iconst (v := 3) hx hb zu_X12_beside_16 (by decide) ?_
    refine lv_icmp_ne (tgt := 24) hx hb zu_X12_beside_17 (by decide) (fun q => absurd rfl q) (fun _ => ?_)
    refine lv_iconst (v := Int32.ofInt (-1)) hx hb zu_X12_beside_20 (by decide) ?_
    refine lv_goto (tgt := 25) hx hb zu_X12_beside_21 (by decide) ?_
    refine lv_iadd hx hb zu_X12_beside_25 ?_
    rw [z_adi (by omega) (by omega) (by omega)]
    refine lv_istore_n (lv' := [(3, .int (Int32.ofInt (cc0 % w + (-1)))), (0, .ref (η.1 a)), (1, .int (Int32.ofInt cc0)), (2, .int 3)]) hx hb zu_X12_beside_26 rfl hl (by decide) rfl (fun ls hl => ?_)
    refine lv_iload_n hx hb zu_X12_beside_27 rfl (lv_at hl 2 rfl) ?_
    refine lv_aload_n hx hb zu_X12_beside_28 rfl (lv_at hl 1 rfl) ?_
    refine hw_get X zfh_289 ha zkm ⟨rfl, rfl⟩ (by decide) hH zu_X12_beside_29 ?_
    rw [zty_wide, z_d0, hwd]
    refine lv_idiv hx hb zu_X12_beside_32 hw0 ?_
    rw [(z_dm hc hw).1]
    refine lv_iload_n hx hb zu_X12_beside_33 rfl (lv_at hl 3 rfl) ?_
    refine lv_iconst (v := 2) hx hb zu_X12_beside_34 (by decide) ?_
    refine lv_icmp_ne (tgt := 42) hx hb zu_X12_beside_35 (by decide) (fun _ => ?_) (fun q => absurd q (by decide))
    refine lv_iload_n hx hb zu_X12_beside_42 rfl (lv_at hl 3 rfl) ?_
    refine lv_if_ne (tgt := 50) hx hb zu_X12_beside_43 (by decide) (fun _ => ?_) (fun q => absurd q (by decide))
    refine lv_iconst (v := Int32.ofInt 0) hx hb zu_X12_beside_50 (by decide) ?_
    refine lv_iadd hx hb zu_X12_beside_51 ?_
    rw [z_adi (by omega) (by omega) (by omega)]
    refine lv_istore (lv' := [(4, .int (Int32.ofInt (cc0 / w + 0))), (3, .int (Int32.ofInt (cc0 % w + (-1)))), (0, .ref (η.1 a)), (1, .int (Int32.ofInt cc0)), (2, .int 3)]) hx hb zu_X12_beside_52 hl (by decide) rfl (fun ls hl => ?_)
    have ed : zbs4 w (h a 25) cc0 3 = if (0 ≤ cc0 % w + (-1) ∧ cc0 % w + (-1) ≤ w - 1) ∧ (0 ≤ cc0 / w + 0 ∧ cc0 / w + 0 ≤ h a 25 - 1) then (cc0 / w + 0) * w + (cc0 % w + (-1)) else -1 := rfl
    refine zbs_tail X hKW ha hH hf hlo hr hlocks hwd hw hb2 (cc0 % w + (-1)) (cc0 / w + 0) (by omega) (by omega) ls hl (zbs4 w (h a 25) cc0 3) ed
