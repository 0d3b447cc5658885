section
variable {η : zRn}
/-! beside and moved, to the value -/
theorem zu_X12_beside_0 : decode cX12_beside 0 = .ok (.iload_n 1, 1) := by decide +kernel
theorem zu_X12_beside_1 : decode cX12_beside 1 = .ok (.aload_n 0, 1) := by decide +kernel
theorem zu_X12_beside_2 : decode cX12_beside 2 = .ok (.getfield 289, 3) := by decide +kernel
theorem zu_X12_beside_5 : decode cX12_beside 5 = .ok (.irem, 1) := by decide +kernel
theorem zu_X12_beside_6 : decode cX12_beside 6 = .ok (.iload_n 2, 1) := by decide +kernel
theorem zu_X12_beside_7 : decode cX12_beside 7 = .ok (.iconst 1, 1) := by decide +kernel
theorem zu_X12_beside_8 : decode cX12_beside 8 = .ok (.if_icmp .ne 7, 3) := by decide +kernel
theorem zu_X12_beside_11 : decode cX12_beside 11 = .ok (.iconst 1, 1) := by decide +kernel
theorem zu_X12_beside_12 : decode cX12_beside 12 = .ok (.goto 13, 3) := by decide +kernel
theorem zu_X12_beside_15 : decode cX12_beside 15 = .ok (.iload_n 2, 1) := by decide +kernel
theorem zu_X12_beside_16 : decode cX12_beside 16 = .ok (.iconst 3, 1) := by decide +kernel
theorem zu_X12_beside_17 : decode cX12_beside 17 = .ok (.if_icmp .ne 7, 3) := by decide +kernel
theorem zu_X12_beside_20 : decode cX12_beside 20 = .ok (.iconst (-1), 1) := by decide +kernel
theorem zu_X12_beside_21 : decode cX12_beside 21 = .ok (.goto 4, 3) := by decide +kernel
theorem zu_X12_beside_24 : decode cX12_beside 24 = .ok (.iconst 0, 1) := by decide +kernel
theorem zu_X12_beside_25 : decode cX12_beside 25 = .ok (.iadd, 1) := by decide +kernel
theorem zu_X12_beside_26 : decode cX12_beside 26 = .ok (.istore_n 3, 1) := by decide +kernel
theorem zu_X12_beside_27 : decode cX12_beside 27 = .ok (.iload_n 1, 1) := by decide +kernel
theorem zu_X12_beside_28 : decode cX12_beside 28 = .ok (.aload_n 0, 1) := by decide +kernel
theorem zu_X12_beside_29 : decode cX12_beside 29 = .ok (.getfield 289, 3) := by decide +kernel
theorem zu_X12_beside_32 : decode cX12_beside 32 = .ok (.idiv, 1) := by decide +kernel
theorem zu_X12_beside_33 : decode cX12_beside 33 = .ok (.iload_n 2, 1) := by decide +kernel
theorem zu_X12_beside_34 : decode cX12_beside 34 = .ok (.iconst 2, 1) := by decide +kernel
theorem zu_X12_beside_35 : decode cX12_beside 35 = .ok (.if_icmp .ne 7, 3) := by decide +kernel
theorem zu_X12_beside_38 : decode cX12_beside 38 = .ok (.iconst 1, 1) := by decide +kernel
theorem zu_X12_beside_39 : decode cX12_beside 39 = .ok (.goto 12, 3) := by decide +kernel
theorem zu_X12_beside_42 : decode cX12_beside 42 = .ok (.iload_n 2, 1) := by decide +kernel
theorem zu_X12_beside_43 : decode cX12_beside 43 = .ok (.ifCond .ne 7, 3) := by decide +kernel
theorem zu_X12_beside_46 : decode cX12_beside 46 = .ok (.iconst (-1), 1) := by decide +kernel
theorem zu_X12_beside_47 : decode cX12_beside 47 = .ok (.goto 4, 3) := by decide +kernel
theorem zu_X12_beside_50 : decode cX12_beside 50 = .ok (.iconst 0, 1) := by decide +kernel
theorem zu_X12_beside_51 : decode cX12_beside 51 = .ok (.iadd, 1) := by decide +kernel
theorem zu_X12_beside_52 : decode cX12_beside 52 = .ok (.istore 4, 2) := by decide +kernel
theorem zu_X12_beside_54 : decode cX12_beside 54 = .ok (.iload_n 3, 1) := by decide +kernel
theorem zu_X12_beside_55 : decode cX12_beside 55 = .ok (.iconst 0, 1) := by decide +kernel
theorem zu_X12_beside_56 : decode cX12_beside 56 = .ok (.aload_n 0, 1) := by decide +kernel
theorem zu_X12_beside_57 : decode cX12_beside 57 = .ok (.getfield 289, 3) := by decide +kernel
theorem zu_X12_beside_60 : decode cX12_beside 60 = .ok (.iconst 1, 1) := by decide +kernel
theorem zu_X12_beside_61 : decode cX12_beside 61 = .ok (.isub, 1) := by decide +kernel
theorem zu_X12_beside_62 : decode cX12_beside 62 = .ok (.invokestatic 129, 3) := by decide +kernel
theorem zu_X12_beside_65 : decode cX12_beside 65 = .ok (.ifCond .eq 30, 3) := by decide +kernel
theorem zu_X12_beside_68 : decode cX12_beside 68 = .ok (.iload 4, 2) := by decide +kernel
theorem zu_X12_beside_70 : decode cX12_beside 70 = .ok (.iconst 0, 1) := by decide +kernel
theorem zu_X12_beside_71 : decode cX12_beside 71 = .ok (.aload_n 0, 1) := by decide +kernel
theorem zu_X12_beside_72 : decode cX12_beside 72 = .ok (.getfield 292, 3) := by decide +kernel
theorem zu_X12_beside_75 : decode cX12_beside 75 = .ok (.iconst 1, 1) := by decide +kernel
theorem zu_X12_beside_76 : decode cX12_beside 76 = .ok (.isub, 1) := by decide +kernel
theorem zu_X12_beside_77 : decode cX12_beside 77 = .ok (.invokestatic 129, 3) := by decide +kernel
theorem zu_X12_beside_80 : decode cX12_beside 80 = .ok (.ifCond .eq 15, 3) := by decide +kernel
theorem zu_X12_beside_83 : decode cX12_beside 83 = .ok (.iload 4, 2) := by decide +kernel
theorem zu_X12_beside_85 : decode cX12_beside 85 = .ok (.aload_n 0, 1) := by decide +kernel
theorem zu_X12_beside_86 : decode cX12_beside 86 = .ok (.getfield 289, 3) := by decide +kernel
theorem zu_X12_beside_89 : decode cX12_beside 89 = .ok (.imul, 1) := by decide +kernel
theorem zu_X12_beside_90 : decode cX12_beside 90 = .ok (.iload_n 3, 1) := by decide +kernel
theorem zu_X12_beside_91 : decode cX12_beside 91 = .ok (.iadd, 1) := by decide +kernel
theorem zu_X12_beside_92 : decode cX12_beside 92 = .ok (.goto 4, 3) := by decide +kernel
theorem zu_X12_beside_95 : decode cX12_beside 95 = .ok (.iconst (-1), 1) := by decide +kernel
theorem zu_X12_beside_96 : decode cX12_beside 96 = .ok (.ireturn, 1) := by decide +kernel
theorem zu_X12_moved_0 : decode cX12_moved 0 = .ok (.iload_n 2, 1) := by decide +kernel
theorem zu_X12_moved_1 : decode cX12_moved 1 = .ok (.iconst 4, 1) := by decide +kernel
theorem zu_X12_moved_2 : decode cX12_moved 2 = .ok (.if_icmp .ne 7, 3) := by decide +kernel
theorem zu_X12_moved_5 : decode cX12_moved 5 = .ok (.iload_n 1, 1) := by decide +kernel
theorem zu_X12_moved_6 : decode cX12_moved 6 = .ok (.goto 9, 3) := by decide +kernel
theorem zu_X12_moved_9 : decode cX12_moved 9 = .ok (.aload_n 0, 1) := by decide +kernel
theorem zu_X12_moved_10 : decode cX12_moved 10 = .ok (.iload_n 1, 1) := by decide +kernel
theorem zu_X12_moved_11 : decode cX12_moved 11 = .ok (.iload_n 2, 1) := by decide +kernel
theorem zu_X12_moved_12 : decode cX12_moved 12 = .ok (.invokevirtual 382, 3) := by decide +kernel
theorem zu_X12_moved_15 : decode cX12_moved 15 = .ok (.ireturn, 1) := by decide +kernel
set_option maxRecDepth 100000 in
theorem zqh_X12_beside : lw_tbl[1722]? = some (.code yX12_beside cX12_beside 5 (some .int)) := rfl
theorem zwh_X12_beside : zMV yX12_beside cX12_beside 5 (some .int) 2 := ⟨⟨zTin 113 (by decide +kernel) rfl, zTin 1722 zqh_X12_beside rfl, ⟨by decide, by decide⟩, by decide +kernel⟩, zTin 1721 (by decide +kernel) rfl, zTin 67 (by decide +kernel) rfl⟩
set_option maxRecDepth 100000 in
theorem zqh_X12_moved : lw_tbl[1815]? = some (.code yX12_moved cX12_moved 3 (some .int)) := rfl
theorem zwh_X12_moved : zMV yX12_moved cX12_moved 3 (some .int) 2 := ⟨⟨zTin 113 (by decide +kernel) rfl, zTin 1815 zqh_X12_moved rfl, ⟨by decide, by decide⟩, by decide +kernel⟩, zTin 1814 (by decide +kernel) rfl, zTin 84 (by decide +kernel) rfl⟩
theorem zyt_382 : Cond.methodLink RX12 382 yX12_beside ∈ zTW := zTin 1719 (by decide +kernel) rfl
theorem zty_wide : zty zKM 24 = (0, 0, 8) := by decide +kernel
theorem zty_high : zty zKM 25 = (0, 0, 8) := by decide +kernel
theorem zfh_289 : zFok RX12 zTW vwCl (289, 12, 24, (some .int)) := ⟨RX12, TX12, 64, rfl, zx_12, by decide, zTin 1323 (by decide +kernel) rfl, fun ty h => ⟨rfl, tyX12, tyX12_ok, nmX12, by cases h; rfl⟩⟩
theorem zfh_292 : zFok RX12 zTW vwCl (292, 12, 25, (some .int)) := ⟨RX12, TX12, 64, rfl, zx_12, by decide, zTin 1324 (by decide +kernel) rfl, fun ty h => ⟨rfl, tyX12, tyX12_ok, nmX12, by cases h; rfl⟩⟩
theorem z_f4 : ∀ d : Fin 4, d = 0 ∨ d = 1 ∨ d = 2 ∨ d = 3 := by decide
theorem z_dma : ∀ c : Fin 64, ∀ w : Fin 8, Int32.ofInt (c.val : Int) / Int32.ofInt ((w.val : Int) + 1) = Int32.ofInt ((c.val : Int) / ((w.val : Int) + 1)) ∧ Int32.ofInt (c.val : Int) - Int32.ofInt (c.val : Int) / Int32.ofInt ((w.val : Int) + 1) * Int32.ofInt ((w.val : Int) + 1) = Int32.ofInt ((c.val : Int) % ((w.val : Int) + 1)) := by decide +kernel
theorem z_mla : ∀ x : Fin 65, ∀ y : Fin 65, Int32.ofInt (x.val : Int) * Int32.ofInt (y.val : Int) = Int32.ofInt ((x.val : Int) * (y.val : Int)) := by decide +kernel
/-- the cell beside, by the wide and the high -/
def zbs4 (w hh c d : Int) : Int := if (0 ≤ c % w + (if d = 1 then 1 else if d = 3 then -1 else 0) ∧ c % w + (if d = 1 then 1 else if d = 3 then -1 else 0) ≤ w - 1) ∧ (0 ≤ c / w + (if d = 2 then 1 else if d = 0 then -1 else 0) ∧ c / w + (if d = 2 then 1 else if d = 0 then -1 else 0) ≤ hh - 1) then (c / w + (if d = 2 then 1 else if d = 0 then -1 else 0)) * w + (c % w + (if d = 1 then 1 else if d = 3 then -1 else 0)) else -1
def zmv (w hh c d : Int) : Int := if d = 4 then c else zbs4 w hh c d
theorem z_bs4 {w hh c d : Int} (hw : 1 ≤ w ∧ w ≤ 8) (hh8 : hh ≤ 8) : zbs4 w hh c d = -1 ∨ (0 ≤ zbs4 w hh c d ∧ zbs4 w hh c d < w * hh ∧ zbs4 w hh c d ≤ 63) := by
  unfold zbs4
  generalize c % w + (if d = 1 then 1 else if d = 3 then -1 else 0) = x
  generalize c / w + (if d = 2 then 1 else if d = 0 then -1 else 0) = y
  by_cases hc : (0 ≤ x ∧ x ≤ w - 1) ∧ (0 ≤ y ∧ y ≤ hh - 1)
  · rw [if_pos hc]
    have h1 : 0 ≤ y * w := Int.mul_nonneg (by omega) (by omega)
    have h2 : (y + 1) * w ≤ hh * w := Int.mul_le_mul_of_nonneg_right (by omega) (by omega)
    have h3 : hh * w ≤ 8 * w := Int.mul_le_mul_of_nonneg_right hh8 (by omega)
    rw [Int.add_mul] at h2
    have h4 : w * hh = hh * w := Int.mul_comm _ _
    exact Or.inr ⟨by omega, by omega, by omega⟩
  · rw [if_neg hc]
    exact Or.inl rfl
theorem z_dm {c w : Int} (hc : 0 ≤ c ∧ c ≤ 63) (hw : 1 ≤ w ∧ w ≤ 8) : Int32.ofInt c / Int32.ofInt w = Int32.ofInt (c / w) ∧ Int32.ofInt c - Int32.ofInt c / Int32.ofInt w * Int32.ofInt w = Int32.ofInt (c % w) := by
  have h := z_dma ⟨c.toNat, by omega⟩ ⟨(w - 1).toNat, by omega⟩
  simp only at h
  rw [show ((c.toNat : Nat) : Int) = c by omega, show (((w - 1).toNat : Nat) : Int) + 1 = w by omega] at h
  exact h
theorem z_mli {x y : Int} (h1 : 0 ≤ x ∧ x ≤ 64) (h2 : 0 ≤ y ∧ y ≤ 64) : Int32.ofInt x * Int32.ofInt y = Int32.ofInt (x * y) := by
  have h := z_mla ⟨x.toNat, by omega⟩ ⟨y.toNat, by omega⟩
  simp only at h
  rw [show ((x.toNat : Nat) : Int) = x by omega, show ((y.toNat : Nat) : Int) = y by omega] at h
  exact h
set_option maxHeartbeats 4000000 in
theorem zbs_tail {p : Program} {l : Launch} {e : Env} {R : Room} {s : State} {m : MethodId} {args : Array Value} {below : List Frame} {meth : Method} {c : Code} {D : va_G} {cy : Nat → ClassId} {L : List Nat} {Θ : Nat → Option Nat} (X : hCx D vwCl cy L p s m args c cX12_beside 5 (tyW cy) zTW RX12) (hKW : KW D cy s) {a : Nat} {h : Nat → Nat → Int} (ha : Θ a = some 35) (hH : zH η zkdm D vwCl cy L Θ h s.heap) (hf : 1 ≤ R.frames) (hlo : 22 ≤ R.locals) (hr : meth.sig.returnType = some .int) (hlocks : meth.locks = false) {w cc0 : Int} {dv : Int32} (hwd : h a 24 = w) (hw : 1 ≤ w ∧ w ≤ 8) (hb2 : 0 ≤ h a 25 ∧ h a 25 ≤ 8) (x y : Int) (hx0 : -1 ≤ x ∧ x ≤ 100) (hy0 : -1 ≤ y ∧ y ≤ 100) (ls : Array Slot) (hl : lv_has ls 5 [(4, .int (Int32.ofInt y)), (3, .int (Int32.ofInt x)), (0, .ref (η.1 a)), (1, .int (Int32.ofInt cc0)), (2, .int dv)]) (z : Int) (ez : z = if (0 ≤ x ∧ x ≤ w - 1) ∧ (0 ≤ y ∧ y ≤ h a 25 - 1) then y * w + x else -1) :
    W p l e R s m args below meth c s.heap [] 0 0 (MQ below (vp_Si (fun r => r = Int32.ofInt z)) args s 0 0 (fun _ => False)) (F0 m 54 ls []) := by
  have hx := X.1
  have hb := X.2.1
  refine lv_iload_n hx hb zu_X12_beside_54 rfl (lv_at hl 1 rfl) ?_
  refine lv_iconst (v := Int32.ofInt 0) hx hb zu_X12_beside_55 (by decide) ?_
  refine lv_aload_n hx hb zu_X12_beside_56 rfl (lv_at hl 2 rfl) ?_
  refine hw_get X zfh_289 ha zkm ⟨rfl, rfl⟩ (by decide) hH zu_X12_beside_57 ?_
  rw [zty_wide, z_d0, hwd]
  refine lv_iconst (v := Int32.ofInt 1) hx hb zu_X12_beside_60 (by decide) ?_
  refine lv_isub hx hb zu_X12_beside_61 ?_
  rw [z_sbi (by omega) (by omega) (by omega)]
  refine hw_in X hl.1 hf hlo (Nat.le_of_ble_eq_true rfl) zyt_129 zu_X12_beside_62 ?_
  have none_ : ¬ ((0 ≤ x ∧ x ≤ w - 1) ∧ (0 ≤ y ∧ y ≤ h a 25 - 1)) → W p l e R s m args below meth c s.heap [] 0 0 (MQ below (vp_Si (fun r => r = Int32.ofInt z)) args s 0 0 (fun _ => False)) (F0 m 95 ls []) := by
    intro hq
    rw [if_neg hq] at ez
    refine lv_iconst (v := -1) hx hb zu_X12_beside_95 (by decide) ?_
    exact W.iret (v := -1) hx hb hr (fun t ht hW => ⟨-1, rfl, by rw [ez]; rfl, ht⟩) (fun _ h => absurd h List.not_mem_nil) zu_X12_beside_96
  by_cases h1 : 0 ≤ x ∧ x ≤ w - 1
  · rw [if_pos ((z_in32 (by omega) (by omega) (by omega)).mpr h1)]
    refine lv_if_eq (tgt := 95) hx hb zu_X12_beside_65 (by decide) (fun q => absurd q (by decide)) (fun _ => ?_)
    refine lv_iload hx hb zu_X12_beside_68 (lv_at hl 0 rfl) ?_
    refine lv_iconst (v := Int32.ofInt 0) hx hb zu_X12_beside_70 (by decide) ?_
    refine lv_aload_n hx hb zu_X12_beside_71 rfl (lv_at hl 2 rfl) ?_
    refine hw_get X zfh_292 ha zkm ⟨rfl, rfl⟩ (by decide) hH zu_X12_beside_72 ?_
    rw [zty_high, z_d0]
    refine lv_iconst (v := Int32.ofInt 1) hx hb zu_X12_beside_75 (by decide) ?_
    refine lv_isub hx hb zu_X12_beside_76 ?_
    rw [z_sbi (by omega) (by omega) (by omega)]
    refine hw_in X hl.1 hf hlo (Nat.le_of_ble_eq_true rfl) zyt_129 zu_X12_beside_77 ?_
    by_cases h2 : 0 ≤ y ∧ y ≤ h a 25 - 1
    · rw [if_pos ((z_in32 (by omega) (by omega) (by omega)).mpr h2)]
      refine lv_if_eq (tgt := 95) hx hb zu_X12_beside_80 (by decide) (fun q => absurd q (by decide)) (fun _ => ?_)
      refine lv_iload hx hb zu_X12_beside_83 (lv_at hl 0 rfl) ?_
      refine lv_aload_n hx hb zu_X12_beside_85 rfl (lv_at hl 2 rfl) ?_
      refine hw_get X zfh_289 ha zkm ⟨rfl, rfl⟩ (by decide) hH zu_X12_beside_86 ?_
      rw [zty_wide, z_d0, hwd]
      refine lv_imul hx hb zu_X12_beside_89 ?_
      rw [z_mli (by omega) (by omega)]
      refine lv_iload_n hx hb zu_X12_beside_90 rfl (lv_at hl 1 rfl) ?_
      refine lv_iadd hx hb zu_X12_beside_91 ?_
      have hm1 : 0 ≤ y * w := Int.mul_nonneg (by omega) (by omega)
      have hm2 : y * w ≤ 7 * w := Int.mul_le_mul_of_nonneg_right (by omega) (by omega)
      rw [z_adi (by omega) (by omega) (by omega)]
      refine lv_goto (tgt := 96) hx hb zu_X12_beside_92 (by decide) ?_
      rw [if_pos ⟨h1, h2⟩] at ez
      exact W.iret hx hb hr (fun t ht hW => ⟨_, rfl, by rw [ez], ht⟩) (fun _ h => absurd h List.not_mem_nil) zu_X12_beside_96
    · rw [if_neg (fun q => h2 ((z_in32 (by omega) (by omega) (by omega)).mp q))]
      refine lv_if_eq (tgt := 95) hx hb zu_X12_beside_80 (by decide) (fun _ => none_ (fun q => h2 q.2)) (fun q => absurd rfl q)
  · rw [if_neg (fun q => h1 ((z_in32 (by omega) (by omega) (by omega)).mp q))]
    refine lv_if_eq (tgt := 95) hx hb zu_X12_beside_65 (by decide) (fun _ => none_ (fun q => h1 q.1)) (fun q => absurd rfl q)
set_option maxHeartbeats 16000000 in
theorem zS_beside (l : Launch) (η : zRn) (D : va_G) (cy : Nat → ClassId) (L : List Nat) (Θ : Nat → Option Nat) (h : Nat → Nat → Int) (a : Nat) (ha : Θ a = some 35) (hnd : L.Nodup) (w cc0 : Int) (d : Fin 4) (hwd : h a 24 = w) (hw : 1 ≤ w ∧ w ≤ 8) (hc : 0 ≤ cc0 ∧ cc0 ≤ 63) : Met l yX12_beside (Cond.code yX12_beside cX12_beside 5 (some .int) :: zTW) ({ frames := 1, cells := 0, slots := 0, locals := 22 } : Room) (va_Pc [.ref (η.1 a), .int (Int32.ofInt cc0), .int (Int32.ofInt (d.val : Int))] (fun U : State => zH η zkdm D vwCl cy L Θ h U.heap ∧ KW D cy U)) (vp_Si (fun r => r = Int32.ofInt (zbs4 w (h a 25) cc0 (d.val : Int)))) 0 0 (fun _ => False) := by
  refine Met.ofW (cc := cX12_beside) (maxL := 5) (ret := (some .int)) (by decide +kernel) rfl ?_
  intro p e s m args below meth c s₁ B hml hv
  obtain ⟨rfl, hH, hKW⟩ := hv
  have hx := B.exec
  have hb := B.bytes
  have hr := B.returns
  have hts0 := atoms_spec (ws := Cond.code yX12_beside cX12_beside 5 (some .int) :: zTW) B.pre
  have hts : ∀ w ∈ zTW, w.before _ s = true := fun w hw => hts0 w (List.mem_cons_of_mem _ hw)
  have hown : s.vm.findClass RX12 = some m.cls := findClass_of_methodNamed B.named
  have hlocks := B.notSynchronized
  have hl := lv_entry ([.ref (η.1 a), .int (Int32.ofInt cc0), .int (Int32.ofInt (d.val : Int))]) (n := 5) (Nat.le_of_ble_eq_true rfl)
  rw [lg_entry_eq]
  generalize (lg_sl ([.ref (η.1 a), .int (Int32.ofInt cc0), .int (Int32.ofInt (d.val : Int))]) ++ List.replicate (5 - (lg_sl ([.ref (η.1 a), .int (Int32.ofInt cc0), .int (Int32.ofInt (d.val : Int))])).length) Slot.unset).toArray = ls at hl ⊢
  have hl : lv_has ls 5 [(0, .ref (η.1 a)), (1, .int (Int32.ofInt cc0)), (2, .int (Int32.ofInt (d.val : Int)))] := hl
  have hT := (zkpr_ok.1 η D cy L Θ s hKW).2
  have X : hCx D vwCl cy L p s m _ c cX12_beside 5 (tyW cy) zTW RX12 := ⟨hx, hb, hml, hts, hown, hKW.1, hT, hnd⟩
  have hb2 : 0 ≤ h a 25 ∧ h a 25 ≤ 8 := by
    have h1 := zH_in hH ha zkm (j := 25) (by decide)
    rw [zty_high] at h1
    exact h1.2
  have hw0 : ¬ Int32.ofInt w = 0 := by
    intro q
    have := congrArg Int32.toInt q
    rw [z_toi (by omega) (by omega)] at this
    have e0 : (0 : Int32).toInt = 0 := rfl
    omega
  have hdv : 0 ≤ cc0 / w ∧ cc0 / w ≤ 63 := by
    refine ⟨Int.ediv_nonneg hc.1 (by omega), ?_⟩
    have := Int.ediv_le_self w hc.1
    omega
  have hmv : 0 ≤ cc0 % w ∧ cc0 % w < w := ⟨Int.emod_nonneg _ (by omega), Int.emod_lt_of_pos _ (by omega)⟩
  have hf : 1 ≤ (headSpec (Cond.code yX12_beside cX12_beside 5 (some .int) :: zTW) ({ frames := 1, cells := 0, slots := 0, locals := 22 } : Room)).room.frames := Nat.le_refl 1
  have hlo : 22 ≤ (headSpec (Cond.code yX12_beside cX12_beside 5 (some .int) :: zTW) ({ frames := 1, cells := 0, slots := 0, locals := 22 } : Room)).room.locals := Nat.le_refl 22
  rcases z_f4 d with rfl | rfl | rfl | rfl
  · skip
    refine lv_iload_n hx hb zu_X12_beside_0 rfl (lv_at hl 1 rfl) ?_
    refine lv_aload_n hx hb zu_X12_beside_1 rfl (lv_at hl 0 rfl) ?_
    refine hw_get X zfh_289 ha zkm ⟨rfl, rfl⟩ (by decide) hH zu_X12_beside_2 ?_
    rw [zty_wide, z_d0, hwd]
    refine lv_irem hx hb zu_X12_beside_5 hw0 ?_
    rw [(z_dm hc hw).2]
    refine lv_iload_n hx hb zu_X12_beside_6 rfl (lv_at hl 2 rfl) ?_
    refine lv_iconst (v := 1) hx hb zu_X12_beside_7 (by decide) ?_
    refine lv_icmp_ne (tgt := 15) hx hb zu_X12_beside_8 (by decide) (fun _ => ?_) (fun q => absurd q (by decide))
    refine lv_iload_n hx hb zu_X12_beside_15 rfl (lv_at hl 2 rfl) ?_
    refine lv_iconst (v := 3) hx hb zu_X12_beside_16 (by decide) ?_
    refine lv_icmp_ne (tgt := 24) hx hb zu_X12_beside_17 (by decide) (fun _ => ?_) (fun q => absurd q (by decide))
    refine lv_iconst (v := Int32.ofInt 0) hx hb zu_X12_beside_24 (by decide) ?_
    refine lv_iadd hx hb zu_X12_beside_25 ?_
    rw [z_adi (by omega) (by omega) (by omega)]
    refine lv_istore_n (lv' := [(3, .int (Int32.ofInt (cc0 % w + 0))), (0, .ref (η.1 a)), (1, .int (Int32.ofInt cc0)), (2, .int 0)]) hx hb zu_X12_beside_26 rfl hl (by decide) rfl (fun ls hl => ?_)
    refine lv_iload_n hx hb zu_X12_beside_27 rfl (lv_at hl 2 rfl) ?_
    refine lv_aload_n hx hb zu_X12_beside_28 rfl (lv_at hl 1 rfl) ?_
    refine hw_get X zfh_289 ha zkm ⟨rfl, rfl⟩ (by decide) hH zu_X12_beside_29 ?_
    rw [zty_wide, z_d0, hwd]
    refine lv_idiv hx hb zu_X12_beside_32 hw0 ?_
    rw [(z_dm hc hw).1]
    refine lv_iload_n hx hb zu_X12_beside_33 rfl (lv_at hl 3 rfl) ?_
    refine lv_iconst (v := 2) hx hb zu_X12_beside_34 (by decide) ?_
    refine lv_icmp_ne (tgt := 42) hx hb zu_X12_beside_35 (by decide) (fun _ => ?_) (fun q => absurd q (by decide))
    refine lv_iload_n hx hb zu_X12_beside_42 rfl (lv_at hl 3 rfl) ?_
    refine lv_if_ne (tgt := 50) hx hb zu_X12_beside_43 (by decide) (fun q => absurd rfl q) (fun _ => ?_)
    refine lv_iconst (v := Int32.ofInt (-1)) hx hb zu_X12_beside_46 (by decide) ?_
    refine lv_goto (tgt := 51) hx hb zu_X12_beside_47 (by decide) ?_
    refine lv_iadd hx hb zu_X12_beside_51 ?_
    rw [z_adi (by omega) (by omega) (by omega)]
    refine lv_istore (lv' := [(4, .int (Int32.ofInt (cc0 / w + (-1)))), (3, .int (Int32.ofInt (cc0 % w + 0))), (0, .ref (η.1 a)), (1, .int (Int32.ofInt cc0)), (2, .int 0)]) hx hb zu_X12_beside_52 hl (by decide) rfl (fun ls hl => ?_)
    have ed : zbs4 w (h a 25) cc0 0 = if (0 ≤ cc0 % w + 0 ∧ cc0 % w + 0 ≤ w - 1) ∧ (0 ≤ cc0 / w + (-1) ∧ cc0 / w + (-1) ≤ h a 25 - 1) then (cc0 / w + (-1)) * w + (cc0 % w + 0) else -1 := rfl
    refine zbs_tail X hKW ha hH hf hlo hr hlocks hwd hw hb2 (cc0 % w + 0) (cc0 / w + (-1)) (by omega) (by omega) ls hl (zbs4 w (h a 25) cc0 0) ed
  · skip
    refine lv_iload_n hx hb zu_X12_beside_0 rfl (lv_at hl 1 rfl) ?_
    refine lv_aload_n hx hb zu_X12_beside_1 rfl (lv_at hl 0 rfl) ?_
    refine hw_get X zfh_289 ha zkm ⟨rfl, rfl⟩ (by decide) hH zu_X12_beside_2 ?_
    rw [zty_wide, z_d0, hwd]
    refine lv_irem hx hb zu_X12_beside_5 hw0 ?_
    rw [(z_dm hc hw).2]
    refine lv_iload_n hx hb zu_X12_beside_6 rfl (lv_at hl 2 rfl) ?_
    refine lv_iconst (v := 1) hx hb zu_X12_beside_7 (by decide) ?_
    refine lv_icmp_ne (tgt := 15) hx hb zu_X12_beside_8 (by decide) (fun q => absurd rfl q) (fun _ => ?_)
    refine lv_iconst (v := Int32.ofInt 1) hx hb zu_X12_beside_11 (by decide) ?_
    refine lv_goto (tgt := 25) hx hb zu_X12_beside_12 (by decide) ?_
    refine lv_iadd hx hb zu_X12_beside_25 ?_
    rw [z_adi (by omega) (by omega) (by omega)]
    refine lv_istore_n (lv' := [(3, .int (Int32.ofInt (cc0 % w + 1))), (0, .ref (η.1 a)), (1, .int (Int32.ofInt cc0)), (2, .int 1)]) hx hb zu_X12_beside_26 rfl hl (by decide) rfl (fun ls hl => ?_)
    refine lv_iload_n hx hb zu_X12_beside_27 rfl (lv_at hl 2 rfl) ?_
    refine lv_aload_n hx hb zu_X12_beside_28 rfl (lv_at hl 1 rfl) ?_
    refine hw_get X zfh_289 ha zkm ⟨rfl, rfl⟩ (by decide) hH zu_X12_beside_29 ?_
    rw [zty_wide, z_d0, hwd]
    refine lv_idiv hx hb zu_X12_beside_32 hw0 ?_
    rw [(z_dm hc hw).1]
    refine lv_iload_n hx hb zu_X12_beside_33 rfl (lv_at hl 3 rfl) ?_
    refine lv_iconst (v := 2) hx hb zu_X12_beside_34 (by decide) ?_
    refine lv_icmp_ne (tgt := 42) hx hb zu_X12_beside_35 (by decide) (fun _ => ?_) (fun q => absurd q (by decide))
    refine lv_iload_n hx hb zu_X12_beside_42 rfl (lv_at hl 3 rfl) ?_
    refine lv_if_ne (tgt := 50) hx hb zu_X12_beside_43 (by decide) (fun _ => ?_) (fun q => absurd q (by decide))
    refine lv_iconst (v := Int32.ofInt 0) hx hb zu_X12_beside_50 (by decide) ?_
    refine lv_iadd hx hb zu_X12_beside_51 ?_
    rw [z_adi (by omega) (by omega) (by omega)]
    refine lv_istore (lv' := [(4, .int (Int32.ofInt (cc0 / w + 0))), (3, .int (Int32.ofInt (cc0 % w + 1))), (0, .ref (η.1 a)), (1, .int (Int32.ofInt cc0)), (2, .int 1)]) hx hb zu_X12_beside_52 hl (by decide) rfl (fun ls hl => ?_)
    have ed : zbs4 w (h a 25) cc0 1 = if (0 ≤ cc0 % w + 1 ∧ cc0 % w + 1 ≤ w - 1) ∧ (0 ≤ cc0 / w + 0 ∧ cc0 / w + 0 ≤ h a 25 - 1) then (cc0 / w + 0) * w + (cc0 % w + 1) else -1 := rfl
    refine zbs_tail X hKW ha hH hf hlo hr hlocks hwd hw hb2 (cc0 % w + 1) (cc0 / w + 0) (by omega) (by omega) ls hl (zbs4 w (h a 25) cc0 1) ed
  · skip
    refine lv_iload_n hx hb zu_X12_beside_0 rfl (lv_at hl 1 rfl) ?_
    refine lv_aload_n hx hb zu_X12_beside_1 rfl (lv_at hl 0 rfl) ?_
    refine hw_get X zfh_289 ha zkm ⟨rfl, rfl⟩ (by decide) hH zu_X12_beside_2 ?_
    rw [zty_wide, z_d0, hwd]
    refine lv_irem hx hb zu_X12_beside_5 hw0 ?_
    rw [(z_dm hc hw).2]
    refine lv_iload_n hx hb zu_X12_beside_6 rfl (lv_at hl 2 rfl) ?_
    refine lv_iconst (v := 1) hx hb zu_X12_beside_7 (by decide) ?_
    refine lv_icmp_ne (tgt := 15) hx hb zu_X12_beside_8 (by decide) (fun _ => ?_) (fun q => absurd q (by decide))
    refine lv_iload_n hx hb zu_X12_beside_15 rfl (lv_at hl 2 rfl) ?_
    refine lv_iconst (v := 3) hx hb zu_X12_beside_16 (by decide) ?_
    refine lv_icmp_ne (tgt := 24) hx hb zu_X12_beside_17 (by decide) (fun _ => ?_) (fun q => absurd q (by decide))
    refine lv_iconst (v := Int32.ofInt 0) hx hb zu_X12_beside_24 (by decide) ?_
    refine lv_iadd hx hb zu_X12_beside_25 ?_
    rw [z_adi (by omega) (by omega) (by omega)]
    refine lv_istore_n (lv' := [(3, .int (Int32.ofInt (cc0 % w + 0))), (0, .ref (η.1 a)), (1, .int (Int32.ofInt cc0)), (2, .int 2)]) hx hb zu_X12_beside_26 rfl hl (by decide) rfl (fun ls hl => ?_)
    refine lv_iload_n hx hb zu_X12_beside_27 rfl (lv_at hl 2 rfl) ?_
    refine lv_aload_n hx hb zu_X12_beside_28 rfl (lv_at hl 1 rfl) ?_
    refine hw_get X zfh_289 ha zkm ⟨rfl, rfl⟩ (by decide) hH zu_X12_beside_29 ?_
    rw [zty_wide, z_d0, hwd]
    refine lv_idiv hx hb zu_X12_beside_32 hw0 ?_
    rw [(z_dm hc hw).1]
    refine lv_iload_n hx hb zu_X12_beside_33 rfl (lv_at hl 3 rfl) ?_
    refine lv_iconst (v := 2) hx hb zu_X12_beside_34 (by decide) ?_
    refine lv_icmp_ne (tgt := 42) hx hb zu_X12_beside_35 (by decide) (fun q => absurd rfl q) (fun _ => ?_)
    refine lv_iconst (v := Int32.ofInt 1) hx hb zu_X12_beside_38 (by decide) ?_
    refine lv_goto (tgt := 51) hx hb zu_X12_beside_39 (by decide) ?_
    refine lv_iadd hx hb zu_X12_beside_51 ?_
    rw [z_adi (by omega) (by omega) (by omega)]
    refine lv_istore (lv' := [(4, .int (Int32.ofInt (cc0 / w + 1))), (3, .int (Int32.ofInt (cc0 % w + 0))), (0, .ref (η.1 a)), (1, .int (Int32.ofInt cc0)), (2, .int 2)]) hx hb zu_X12_beside_52 hl (by decide) rfl (fun ls hl => ?_)
    have ed : zbs4 w (h a 25) cc0 2 = if (0 ≤ cc0 % w + 0 ∧ cc0 % w + 0 ≤ w - 1) ∧ (0 ≤ cc0 / w + 1 ∧ cc0 / w + 1 ≤ h a 25 - 1) then (cc0 / w + 1) * w + (cc0 % w + 0) else -1 := rfl
    refine zbs_tail X hKW ha hH hf hlo hr hlocks hwd hw hb2 (cc0 % w + 0) (cc0 / w + 1) (by omega) (by omega) ls hl (zbs4 w (h a 25) cc0 2) ed
  · skip
    refine lv_iload_n hx hb zu_X12_beside_0 rfl (lv_at hl 1 rfl) ?_
    refine lv_aload_n hx hb zu_X12_beside_1 rfl (lv_at hl 0 rfl) ?_
    refine hw_get X zfh_289 ha zkm ⟨rfl, rfl⟩ (by decide) hH zu_X12_beside_2 ?_
    rw [zty_wide, z_d0, hwd]
    refine lv_irem hx hb zu_X12_beside_5 hw0 ?_
    rw [(z_dm hc hw).2]
    refine lv_iload_n hx hb zu_X12_beside_6 rfl (lv_at hl 2 rfl) ?_
    refine lv_iconst (v := 1) hx hb zu_X12_beside_7 (by decide) ?_
    refine lv_icmp_ne (tgt := 15) hx hb zu_X12_beside_8 (by decide) (fun _ => ?_) (fun q => absurd q (by decide))
    refine lv_iload_n hx hb zu_X12_beside_15 rfl (lv_at hl 2 rfl) ?_
    refine lv_iconst (v := 3) hx hb zu_X12_beside_16 (by decide) ?_
    refine lv_icmp_ne (tgt := 24) hx hb zu_X12_beside_17 (by decide) (fun q => absurd rfl q) (fun _ => ?_)
    refine lv_iconst (v := Int32.ofInt (-1)) hx hb zu_X12_beside_20 (by decide) ?_
    refine lv_goto (tgt := 25) hx hb zu_X12_beside_21 (by decide) ?_
    refine lv_iadd hx hb zu_X12_beside_25 ?_
    rw [z_adi (by omega) (by omega) (by omega)]
    refine lv_istore_n (lv' := [(3, .int (Int32.ofInt (cc0 % w + (-1)))), (0, .ref (η.1 a)), (1, .int (Int32.ofInt cc0)), (2, .int 3)]) hx hb zu_X12_beside_26 rfl hl (by decide) rfl (fun ls hl => ?_)
    refine lv_iload_n hx hb zu_X12_beside_27 rfl (lv_at hl 2 rfl) ?_
    refine lv_aload_n hx hb zu_X12_beside_28 rfl (lv_at hl 1 rfl) ?_
    refine hw_get X zfh_289 ha zkm ⟨rfl, rfl⟩ (by decide) hH zu_X12_beside_29 ?_
    rw [zty_wide, z_d0, hwd]
    refine lv_idiv hx hb zu_X12_beside_32 hw0 ?_
    rw [(z_dm hc hw).1]
    refine lv_iload_n hx hb zu_X12_beside_33 rfl (lv_at hl 3 rfl) ?_
    refine lv_iconst (v := 2) hx hb zu_X12_beside_34 (by decide) ?_
    refine lv_icmp_ne (tgt := 42) hx hb zu_X12_beside_35 (by decide) (fun _ => ?_) (fun q => absurd q (by decide))
    refine lv_iload_n hx hb zu_X12_beside_42 rfl (lv_at hl 3 rfl) ?_
    refine lv_if_ne (tgt := 50) hx hb zu_X12_beside_43 (by decide) (fun _ => ?_) (fun q => absurd q (by decide))
    refine lv_iconst (v := Int32.ofInt 0) hx hb zu_X12_beside_50 (by decide) ?_
    refine lv_iadd hx hb zu_X12_beside_51 ?_
    rw [z_adi (by omega) (by omega) (by omega)]
    refine lv_istore (lv' := [(4, .int (Int32.ofInt (cc0 / w + 0))), (3, .int (Int32.ofInt (cc0 % w + (-1)))), (0, .ref (η.1 a)), (1, .int (Int32.ofInt cc0)), (2, .int 3)]) hx hb zu_X12_beside_52 hl (by decide) rfl (fun ls hl => ?_)
    have ed : zbs4 w (h a 25) cc0 3 = if (0 ≤ cc0 % w + (-1) ∧ cc0 % w + (-1) ≤ w - 1) ∧ (0 ≤ cc0 / w + 0 ∧ cc0 / w + 0 ≤ h a 25 - 1) then (cc0 / w + 0) * w + (cc0 % w + (-1)) else -1 := rfl
    refine zbs_tail X hKW ha hH hf hlo hr hlocks hwd hw hb2 (cc0 % w + (-1)) (cc0 / w + 0) (by omega) (by omega) ls hl (zbs4 w (h a 25) cc0 3) ed
end
section
variable {η : zRn}
/-! findSoon: rows -/
section HWC
variable {D : va_G} {cy : Nat → ClassId} {L : List Nat} {Θ : Nat → Option Nat} {h : Nat → Nat → Int} {H H0 : Heap} {locs : List Loc}
variable {p : Program} {l : Launch} {e : Env} {R : Room} {s : State} {m : MethodId} {args : Array Value} {below : List Frame} {meth : Method} {c : Code} {Q : State → Prop}
variable {cc : ByteArray} {pc nL : Nat} {ls : Array Slot} {rest : List Value} {tys : List (ClassId × FieldType)} {Ts : List Cond} {own : String}
theorem hw_call {C : zCT} (hrun : zHrun η zkdm D vwCl cy L Θ (fun q => q ∈ L) H0 nL p l e R s m args below meth c pc C) {σ : List Int} (hE : zge σ C.2.2.1.2.1) (hA : ∀ a ∈ C.2.2.1.1, zga Θ σ a) (hV : zgv Θ h σ C.2.2.1.2.2.2.2.1) (hR : zgr σ C.2.2.1.2.2.2.2.2) (hH : zH η zkdm D vwCl cy L Θ h H) (hS : va_S (fun q => q ∈ L) H0 H locs) (hsz : ls.size = nL) (hcat : (rest.map (fun v => v.category)).sum ≤ 8)
    (k : ∀ (v : Option Value) (out : zAS) (ρ : List Int) (h' : Nat → Nat → Int) (H1 : Heap) (locs1 : List Loc), out ∈ C.2.2.2.1 → zge (σ ++ ρ) out.1 → v.toList = out.2.2.1.map (zvo η (σ ++ ρ)) → zgv Θ h' (σ ++ ρ) out.2.2.2.1 → zH η zkdm D vwCl cy L Θ h' H1 → (∀ a k j, Θ a = some k → zinE C.2.2.2.2 k j j = false → h' a j = h a j) → va_S (fun q => q ∈ L) H0 H1 locs1 → W p l e R s m args below meth c H1 locs1 0 0 Q (F0 m (pc + 3) ls (v.toList ++ rest))) :
    W p l e R s m args below meth c H locs 0 0 Q (F0 m pc ls ((C.2.2.1.1.map (zvo η σ)).reverse ++ rest)) := by
  have hr := hrun σ h H locs ls rest hE hA hV hR hH hS hsz hcat
  intro T hT X
  obtain ⟨v, st₀, t, T', L', hh0, X', hL', e1, e2, ⟨v', out, ρ, h', hv, ho, oE, oS, ov, oV, oR, oH, oX, oF⟩, stp⟩ := hr T hT X
  cases hv
  have hS1 : va_S (fun q => q ∈ L) H0 t.heap (locs ++ L') := by
    refine ⟨Nat.le_trans hS.1 (by rw [← hh0]; exact oF.1), fun q hq hA => ?_, fun q hq => ?_⟩
    · have hq' : q < st₀.heap.size := by rw [hh0]; exact Nat.lt_of_lt_of_le hq hS.1
      rw [oF.2 q hq' hA, hh0]
      exact hS.2.1 q hq hA
    · rcases List.mem_append.mp hq with hq | hq
      · exact hS.2.2 q hq
      · exact hL' q hq
  have w := k _ out ρ h' t.heap (locs ++ L') ho oE ov oV oH oX hS1
  obtain ⟨t2, q1, q2⟩ := w T' e1 X'
  exact ⟨t2, stp t2 q1, q2⟩
theorem hw_zast {kds : List zKD} {cl : List vw_C} (X : hCx D cl cy L p s m args c cc nL tys Ts own) {kk : Nat} {a : Nat} {K : zKD} {i x : Int32} (hΘ : Θ a = some kk) (hK : kds[kk]? = some K) (hKf : K.1 = 1 ∧ K.2.1 = 2) (hi : 0 ≤ i.toInt ∧ i.toInt < (K.2.2.1 : Int)) (hx : zok Θ (zty K i.toInt.toNat).1 x.toInt ∧ (zty K i.toInt.toNat).2.1 ≤ x.toInt ∧ x.toInt ≤ (zty K i.toInt.toNat).2.2) (hx1 : 0 ≤ x.toInt ∧ x.toInt ≤ 1) (hH : zH η kds D cl cy L Θ h H) (hS : va_S (fun q => q ∈ L) H0 H locs) (hdg : decode cc pc = .ok (.bastore, 1))
    (w : ∀ (H1 : Heap) (locs1 : List Loc), zH η kds D cl cy L Θ (zup h a i.toInt.toNat x.toInt) H1 → va_S (fun q => q ∈ L) H0 H1 locs1 → W p l e R s m args below meth c H1 locs1 0 0 Q (F0 m (pc + 1) ls rest)) : W p l e R s m args below meth c H locs 0 0 Q (F0 m pc ls (.int x :: .int i :: .ref (η.1 a) :: rest)) := by
  obtain ⟨hexec, hb, hml, hts, hown, hKa, hT, hnd⟩ := X
  obtain ⟨q0, hq⟩ := zH_get hH hΘ hK (by omega)
  have hq1 := hq
  rw [zE_i hKf.1, hKf.2] at hq1
  obtain ⟨v1, v2⟩ := z_vin (i := i) (n := K.2.2.1) hi.1 hi.2
  have hD : va_D (fun q => q ∈ L) ([] ++ va_pl L (zF η kds cy Θ h)) := z_D hnd (fun a ha => ha)
  refine va_zast hexec hb hKa hH.1 hD hS q0 2 hq1 hT.2.2.1 v1 hdg (fun H1 locs1 hP1 _ hS1 => ?_)
  refine w H1 locs1 ?_ hS1
  refine zH_put hH hD hΘ hK (by omega) (by omega) hx hq ?_
  rw [zE_i hKf.1, hKf.2]
  have ef : (fun j => Int32.ofInt (zup h a i.toInt.toNat x.toInt a j)) = upd (fun j => Int32.ofInt (h a j)) i.toInt.toNat x := by
    funext j
    unfold upd
    split
    · rename_i e
      subst e
      rw [zup_at, z_ofi]
    · rename_i e
      rw [zup_ne (fun q => e q.2)]
  rw [z_narz hx1.1 hx1.2] at hP1
  rw [ef, ← v2]
  exact hP1
theorem hw_zlen {kds : List zKD} {cl : List vw_C} (X : hCx D cl cy L p s m args c cc nL (tyW cy) Ts own) {kk : Nat} {a : Nat} {K : zKD} (hΘ : Θ a = some kk) (hK : kds[kk]? = some K) (hKf : K.1 = 1 ∧ K.2.1 = 2) {n : Int} (hn : (K.2.2.1 : Int) = n) (hH : zH η kds D cl cy L Θ h H) (hdg : decode cc pc = .ok (.arraylength, 1))
    (w : W p l e R s m args below meth c H locs 0 0 Q (F0 m (pc + 1) ls (.int (Int32.ofInt n) :: rest))) : W p l e R s m args below meth c H locs 0 0 Q (F0 m pc ls (.ref (η.1 a) :: rest)) := by
  obtain ⟨hexec, hb, hml, hts, hown, hKa, hT, hnd⟩ := X
  obtain ⟨q0, hq⟩ := zH_get hH hΘ hK (by omega)
  rw [zE_i hKf.1, hKf.2] at hq
  rw [← hn] at w
  exact va_alen (v := Int32.ofInt (K.2.2.1 : Int)) hexec hb hKa hH.1 q0 2 hq hT.2.2.1 Int32.ofInt_eq_ofNat.symm hdg w
theorem hw_beside (X : hCx D vwCl cy L p s m args c cc nL (tyW cy) zTW RX12) (hKW : KW D cy s) {a : Nat} (ha : Θ a = some 35) (hsz : ls.size = nL) (hf : 2 ≤ R.frames) (hlo : 46 ≤ R.locals) (hrest : (rest.map (fun v => v.category)).sum ≤ 8) (hH : zH η zkdm D vwCl cy L Θ h H) {w0 hh cc0 : Int} {d : Nat} (hd : d < 4) (hwd : h a 24 = w0) (hhd : h a 25 = hh) (hw : 1 ≤ w0 ∧ w0 ≤ 8) (hc : 0 ≤ cc0 ∧ cc0 ≤ 63) {idx : Nat} (hlk : Cond.methodLink RX12 idx yX12_beside ∈ zTW) (hdg : decode cc pc = .ok (.invokevirtual idx, 3))
    (w : W p l e R s m args below meth c H locs 0 0 Q (F0 m (pc + 3) ls (.int (Int32.ofInt (zbs4 w0 hh cc0 (d : Int))) :: rest))) : W p l e R s m args below meth c H locs 0 0 Q (F0 m pc ls (.int (Int32.ofInt (d : Int)) :: .int (Int32.ofInt cc0) :: .ref (η.1 a) :: rest)) := by
  obtain ⟨hexec, hb, hml, hts, hown, hKa, hT, hnd⟩ := X
  obtain ⟨q0, hq⟩ := zH_get hH ha zkm (by decide)
  rw [zE_o rfl] at hq
  have hrec := va_recv hKa hH.1 (show vwCl[12]? = some (RX12, TX12, 64) from rfl) hq
  refine pc_i (va_runV (C := RX12) (n := 2) (As := [.int (Int32.ofInt cc0), .int (Int32.ofInt (d : Int))]) (rest := rest) (bytes := cX12_beside) (maxL := 5) (ret := some .int) ⟨hexec, hb, hml, hown, hts⟩ (zS_beside l η D cy L Θ h a ha hnd w0 cc0 ⟨d, hd⟩ hwd hw hc) ⟨callB_of _ hts (z_good0 zwh_X12_beside.1.2.1) rfl rfl rfl (hts _ zwh_X12_beside.1.1) (hts _ hlk) ⟨zwh_X12_beside.1.2.2.1.1, zwh_X12_beside.1.2.2.1.2, zwh_X12_beside.1.2.2.2⟩ ⟨hf, hlo⟩, hts _ zwh_X12_beside.2.1, hts _ zwh_X12_beside.2.2⟩ ⟨zseeB, hrec, fun U hU hW => ⟨rfl, by rw [hU]; exact hH, hKW.warm hW⟩⟩ rfl rfl hsz rfl (by simpa using hrest) hdg ⟨Nat.zero_le _, Nat.zero_le _⟩) (fun r hr => ?_)
  rw [hr, hhd]
  exact w
end HWC
set_option maxHeartbeats 4000000 in
theorem zS_moved (l : Launch) (η : zRn) (D : va_G) (cy : Nat → ClassId) (L : List Nat) (Θ : Nat → Option Nat) (h : Nat → Nat → Int) (a : Nat) (ha : Θ a = some 35) (hnd : L.Nodup) (w hh cc0 : Int) (d : Nat) (hd : d ≤ 4) (hwd : h a 24 = w) (hhd : h a 25 = hh) (hw : 1 ≤ w ∧ w ≤ 8) (hc : 0 ≤ cc0 ∧ cc0 ≤ 63) : Met l yX12_moved (Cond.code yX12_moved cX12_moved 3 (some .int) :: zTW) ({ frames := 2, cells := 0, slots := 0, locals := 46 } : Room) (va_Pc [.ref (η.1 a), .int (Int32.ofInt cc0), .int (Int32.ofInt (d : Int))] (fun U : State => zH η zkdm D vwCl cy L Θ h U.heap ∧ KW D cy U)) (vp_Si (fun r => r = Int32.ofInt (zmv w hh cc0 (d : Int)))) 0 0 (fun _ => False) := by
  refine Met.ofW (cc := cX12_moved) (maxL := 3) (ret := (some .int)) (by decide +kernel) rfl ?_
  intro p e s m args below meth c s₁ B hml hv
  obtain ⟨rfl, hH, hKW⟩ := hv
  have hx := B.exec
  have hb := B.bytes
  have hr := B.returns
  have hts0 := atoms_spec (ws := Cond.code yX12_moved cX12_moved 3 (some .int) :: zTW) B.pre
  have hts : ∀ w ∈ zTW, w.before _ s = true := fun w hw => hts0 w (List.mem_cons_of_mem _ hw)
  have hown : s.vm.findClass RX12 = some m.cls := findClass_of_methodNamed B.named
  have hlocks := B.notSynchronized
  have hl := lv_entry ([.ref (η.1 a), .int (Int32.ofInt cc0), .int (Int32.ofInt (d : Int))]) (n := 3) (Nat.le_of_ble_eq_true rfl)
  rw [lg_entry_eq]
  generalize (lg_sl ([.ref (η.1 a), .int (Int32.ofInt cc0), .int (Int32.ofInt (d : Int))]) ++ List.replicate (3 - (lg_sl ([.ref (η.1 a), .int (Int32.ofInt cc0), .int (Int32.ofInt (d : Int))])).length) Slot.unset).toArray = ls at hl ⊢
  have hl : lv_has ls 3 [(0, .ref (η.1 a)), (1, .int (Int32.ofInt cc0)), (2, .int (Int32.ofInt (d : Int)))] := hl
  have hT := (zkpr_ok.1 η D cy L Θ s hKW).2
  have X : hCx D vwCl cy L p s m _ c cX12_moved 3 (tyW cy) zTW RX12 := ⟨hx, hb, hml, hts, hown, hKW.1, hT, hnd⟩
  refine lv_iload_n hx hb zu_X12_moved_0 rfl (lv_at hl 2 rfl) ?_
  refine lv_iconst (v := Int32.ofInt 4) hx hb zu_X12_moved_1 (by decide) ?_
  refine lv_icmp_ne (tgt := 9) hx hb zu_X12_moved_2 (by decide) (fun q => ?_) (fun q => ?_)
  · have hd4 : d < 4 := by
      rcases Nat.lt_or_ge d 4 with q2 | q2
      · exact q2
      · have : d = 4 := by omega
        subst this
        exact absurd rfl q
    refine lv_aload_n hx hb zu_X12_moved_9 rfl (lv_at hl 0 rfl) ?_
    refine lv_iload_n hx hb zu_X12_moved_10 rfl (lv_at hl 1 rfl) ?_
    refine lv_iload_n hx hb zu_X12_moved_11 rfl (lv_at hl 2 rfl) ?_
    refine hw_beside X hKW ha hl.1 (Nat.le_refl 2) (Nat.le_refl 46) (Nat.le_of_ble_eq_true rfl) hH hd4 hwd hhd hw hc zyt_382 zu_X12_moved_12 ?_
    have ez : zmv w hh cc0 (d : Int) = zbs4 w hh cc0 (d : Int) := by
      unfold zmv
      rw [if_neg (by omega)]
    exact W.iret hx hb hr (fun t ht hW => ⟨_, rfl, by rw [ez], ht⟩) (fun _ h => absurd h List.not_mem_nil) zu_X12_moved_15
  · have hd4 : d = 4 := by
      have q2 := congrArg Int32.toInt q
      rw [z_toi (by omega) (by omega), z_toi (by omega) (by omega)] at q2
      omega
    subst hd4
    refine lv_iload_n hx hb zu_X12_moved_5 rfl (lv_at hl 1 rfl) ?_
    refine lv_goto (tgt := 15) hx hb zu_X12_moved_6 (by decide) ?_
    exact W.iret hx hb hr (fun t ht hW => ⟨_, rfl, rfl, ht⟩) (fun _ h => absurd h List.not_mem_nil) zu_X12_moved_15
theorem hw_moved {D : va_G} {cy : Nat → ClassId} {L : List Nat} {Θ : Nat → Option Nat} {h : Nat → Nat → Int} {H : Heap} {locs : List Loc} {p : Program} {l : Launch} {e : Env} {R : Room} {s : State} {m : MethodId} {args : Array Value} {below : List Frame} {meth : Method} {c : Code} {Q : State → Prop} {cc : ByteArray} {pc nL : Nat} {ls : Array Slot} {rest : List Value} (X : hCx D vwCl cy L p s m args c cc nL (tyW cy) zTW RX12) (hKW : KW D cy s) {a : Nat} (ha : Θ a = some 35) (hsz : ls.size = nL) (hf : 3 ≤ R.frames) (hlo : 68 ≤ R.locals) (hrest : (rest.map (fun v => v.category)).sum ≤ 8) (hH : zH η zkdm D vwCl cy L Θ h H) {w0 hh cc0 : Int} {d : Nat} (hd : d ≤ 4) (hwd : h a 24 = w0) (hhd : h a 25 = hh) (hw : 1 ≤ w0 ∧ w0 ≤ 8) (hc : 0 ≤ cc0 ∧ cc0 ≤ 63) {idx : Nat} (hlk : Cond.methodLink RX12 idx yX12_moved ∈ zTW) (hdg : decode cc pc = .ok (.invokevirtual idx, 3))
    (w : W p l e R s m args below meth c H locs 0 0 Q (F0 m (pc + 3) ls (.int (Int32.ofInt (zmv w0 hh cc0 (d : Int))) :: rest))) : W p l e R s m args below meth c H locs 0 0 Q (F0 m pc ls (.int (Int32.ofInt (d : Int)) :: .int (Int32.ofInt cc0) :: .ref (η.1 a) :: rest)) := by
  obtain ⟨hexec, hb, hml, hts, hown, hKa, hT, hnd⟩ := X
  obtain ⟨q0, hq⟩ := zH_get hH ha zkm (by decide)
  rw [zE_o rfl] at hq
  have hrec := va_recv hKa hH.1 (show vwCl[12]? = some (RX12, TX12, 64) from rfl) hq
  refine pc_i (va_runV (C := RX12) (n := 2) (As := [.int (Int32.ofInt cc0), .int (Int32.ofInt (d : Int))]) (rest := rest) (bytes := cX12_moved) (maxL := 3) (ret := some .int) ⟨hexec, hb, hml, hown, hts⟩ (zS_moved l η D cy L Θ h a ha hnd w0 hh cc0 d hd hwd hhd hw hc) ⟨callB_of _ hts (z_good0 zwh_X12_moved.1.2.1) rfl rfl rfl (hts _ zwh_X12_moved.1.1) (hts _ hlk) ⟨zwh_X12_moved.1.2.2.1.1, zwh_X12_moved.1.2.2.1.2, zwh_X12_moved.1.2.2.2⟩ ⟨hf, hlo⟩, hts _ zwh_X12_moved.2.1, hts _ zwh_X12_moved.2.2⟩ ⟨zseeB, hrec, fun U hU hW => ⟨rfl, by rw [hU]; exact hH, hKW.warm hW⟩⟩ rfl rfl hsz rfl (by simpa using hrest) hdg ⟨Nat.zero_le _, Nat.zero_le _⟩) (fun r hr => ?_)
  rw [hr]
  exact w
theorem zyt_421 : Cond.methodLink RX12 421 yX12_moved ∈ zTW := zTin 1812 (by decide +kernel) rfl
theorem zty_may : zty zKM 52 = (29, 0, 2147483647) := by decide +kernel
theorem zty_well : zty zKM 53 = (30, 0, 2147483647) := by decide +kernel
theorem zty_rows : zty zKM 54 = (28, 0, 2147483647) := by decide +kernel
theorem zty_boatAt : zty zKM 30 = (12, 0, 2147483647) := by decide +kernel
theorem zfh_89 : zFok RX12 zTW vwCl (89, 12, 52, none) := ⟨RX12, TX12, 64, rfl, zx_12, by decide, zTin 1351 (by decide +kernel) rfl, fun _ h => by cases h⟩
theorem zfh_93 : zFok RX12 zTW vwCl (93, 12, 53, none) := ⟨RX12, TX12, 64, rfl, zx_12, by decide, zTin 1352 (by decide +kernel) rfl, fun _ h => by cases h⟩
theorem zfh_96 : zFok RX12 zTW vwCl (96, 12, 54, none) := ⟨RX12, TX12, 64, rfl, zx_12, by decide, zTin 1353 (by decide +kernel) rfl, fun _ h => by cases h⟩
theorem zfh_41 : zFok RX12 zTW vwCl (41, 12, 30, none) := ⟨RX12, TX12, 64, rfl, zx_12, by decide, zTin 1329 (by decide +kernel) rfl, fun _ h => by cases h⟩
abbrev zK_may : zKD := (1, 2, 1984, [(0, 0, 1)])
theorem zkk_may : zkdm[27]? = some zK_may := rfl
abbrev zK_well : zKD := (1, 2, 1984, [(0, 0, 1)])
theorem zkk_well : zkdm[28]? = some zK_well := rfl
abbrev zK_rows : zKD := (1, 0, 30, [(0, (-2147483648), 2147483647)])
theorem zkk_rows : zkdm[26]? = some zK_rows := rfl
abbrev zK_boatAt : zKD := (1, 0, 6, [(0, 0, 63)])
theorem zkk_boatAt : zkdm[10]? = some zK_boatAt := rfl
theorem zup_slf {h : Nat → Nat → Int} {b k : Nat} {x : Int} : zup h b k x b = fun i => if i = k then x else h b i := by
  funext i
  by_cases q : i = k
  · subst q
    rw [zup_at, if_pos rfl]
  · rw [zup_ne (fun r => q r.2), if_neg q]
theorem z_ix {t c : Nat} (ht : t ≤ 31) (hc : c < 64) : Int32.ofInt 64 * Int32.ofInt (t : Int) + Int32.ofInt (c : Int) = Int32.ofInt ((64 * t + c : Nat) : Int) := by
  rw [z_mli (by omega) (by omega), z_adi (by omega) (by omega) (by omega)]
  congr 1
theorem z_inc1 {t : Nat} (ht : t ≤ 100000) : Int32.ofInt (t : Int) + Int32.ofInt 1 = Int32.ofInt ((t + 1 : Nat) : Int) := by
  rw [z_adi (by omega) (by omega) (by omega)]
  congr 1
/-- where one can be after some hours -/
def zRch (w hh c0 : Int) : Nat → Int → Prop
  | 0, c => c = c0
  | t + 1, c' => ∃ c d : Nat, (c : Int) < w * hh ∧ d ≤ 4 ∧ zRch w hh c0 t (c : Int) ∧ zmv w hh (c : Int) (d : Int) = c'
def zMy (w hh c0 : Int) (f : Nat → Int) : Prop := ∀ t c : Nat, t ≤ 30 → c < 64 → f (64 * t + c) = 1 → zRch w hh c0 t (c : Int)
def zZr (f : Nat → Int) (r : Nat) : Prop := ∀ t c, t < r → c < 64 → f (64 * t + c) = 0
def zFd (w hh c0 : Int) (f : Nat → Int) (r : Nat) : Prop := ∃ c : Nat, c < 64 ∧ f (64 * r + c) = 1 ∧ zRch w hh c0 r (c : Int)
def zWl (w hh c0 : Int) (f : Nat → Int) (hr : Int) : Prop := (hr = -1 ∧ zZr f 31) ∨ ∃ T : Nat, T ≤ 30 ∧ hr = (T : Int) ∧ zZr f T ∧ zFd w hh c0 f T
def zSd (w hh : Int) (f : Nat → Int) (T r : Nat) : Prop := ∀ t c : Nat, r ≤ t → t < T → c < 64 → f (64 * t + c) = 1 → ∃ d : Nat, d ≤ 4 ∧ 0 ≤ zmv w hh (c : Int) (d : Int) ∧ f (64 * (t + 1) + (zmv w hh (c : Int) (d : Int)).toNat) = 1
def zCp (w hh : Int) (f : Nat → Int) (t c d : Nat) : Prop := ∀ x y : Nat, (x < c ∨ (x = c ∧ y < d)) → x < 64 → y ≤ 4 → 0 ≤ zmv w hh (x : Int) (y : Int) → f (64 * (t + 1) + (zmv w hh (x : Int) (y : Int)).toNat) = 1 → f (64 * t + x) = 1
def zIn (w hh c0 : Int) (f : Nat → Int) (T t c d : Nat) : Prop := zZr f t ∧ zSd w hh f T t ∧ zFd w hh c0 f (t + 1) ∧ zCp w hh f t c d
theorem z_mv63 {w hh c d : Int} (hw : 1 ≤ w ∧ w ≤ 8) (hh8 : hh ≤ 8) (hc : 0 ≤ c ∧ c ≤ 63) : zmv w hh c d = -1 ∨ (0 ≤ zmv w hh c d ∧ zmv w hh c d ≤ 63) := by
  unfold zmv
  split
  · exact Or.inr hc
  · rcases z_bs4 (c := c) (d := d) hw hh8 with q | q
    · exact Or.inl q
    · exact Or.inr ⟨q.1, q.2.2⟩
theorem zMy_up {w hh c0 : Int} {f : Nat → Int} {t c : Nat} (g : zMy w hh c0 f) (hc : c < 64) (hr : zRch w hh c0 t (c : Int)) : zMy w hh c0 (fun i => if i = 64 * t + c then 1 else f i) := by
  intro t2 c2 h1 h2 e
  by_cases q : 64 * t2 + c2 = 64 * t + c
  · have q1 : t2 = t := by omega
    have q2 : c2 = c := by omega
    subst q1 q2
    exact hr
  · simp only [if_neg q] at e
    exact g t2 c2 h1 h2 e
theorem zWl_hit {w hh c0 : Int} {f : Nat → Int} {t c : Nat} {hr : Int} (g : zWl w hh c0 f hr) (ht : hr = -1 ∨ hr = (t : Int)) (h30 : t ≤ 30) (hc : c < 64) (hR : zRch w hh c0 t (c : Int)) : zWl w hh c0 (fun i => if i = 64 * t + c then 1 else f i) (t : Int) := by
  refine Or.inr ⟨t, h30, rfl, fun t2 c2 h1 h2 => ?_, c, hc, if_pos rfl, hR⟩
  have q : ¬ 64 * t2 + c2 = 64 * t + c := by omega
  simp only [if_neg q]
  rcases g with ⟨-, g⟩ | ⟨T, h3, h4, g, -⟩
  · exact g t2 c2 (by omega) h2
  · have : T = t := by omega
    subst this
    exact g t2 c2 h1 h2
theorem zIn_start {w hh c0 : Int} {f : Nat → Int} {T t : Nat} (h1 : zZr f (t + 1)) (h2 : zSd w hh f T (t + 1)) (h3 : zFd w hh c0 f (t + 1)) : zIn w hh c0 f T t 0 0 := by
  refine ⟨fun t2 c2 a b => h1 t2 c2 (by omega) b, fun t2 c2 a b c e => ?_, h3, fun x y q => by omega⟩
  rcases Nat.lt_or_ge t t2 with q | q
  · exact h2 t2 c2 q b c e
  · have : t2 = t := by omega
    subst this
    have := h1 t2 c2 (by omega) c
    omega
theorem zIn_c {w hh c0 : Int} {f : Nat → Int} {T t c : Nat} (g : zIn w hh c0 f T t c 5) : zIn w hh c0 f T t (c + 1) 0 := by
  refine ⟨g.1, g.2.1, g.2.2.1, fun x y q h1 h2 h3 h4 => g.2.2.2 x y ?_ h1 h2 h3 h4⟩
  omega
theorem zIn_end {w hh c0 : Int} {f : Nat → Int} {T t c : Nat} (hc : w * hh ≤ (c : Int)) (h64 : w * hh ≤ 64) (g : zIn w hh c0 f T t c 0) : zZr f t ∧ zSd w hh f T t ∧ zFd w hh c0 f t := by
  refine ⟨g.1, g.2.1, ?_⟩
  obtain ⟨x, x1, x2, x3⟩ := g.2.2.1
  obtain ⟨cc, d, y1, y2, y3, y4⟩ := x3
  refine ⟨cc, by omega, g.2.2.2 cc d (Or.inl (by omega)) (by omega) y2 (by omega) ?_, y3⟩
  rw [y4]
  exact x2
theorem zIn_step {w hh c0 : Int} {f : Nat → Int} {T t c d : Nat} {v : Int} (g : zIn w hh c0 f T t c d) (hc : c < 64) (hd : d ≤ 4) (hv : (v = 1 ∧ (f (64 * t + c) = 1 ∨ (0 ≤ zmv w hh (c : Int) (d : Int) ∧ f (64 * (t + 1) + (zmv w hh (c : Int) (d : Int)).toNat) = 1))) ∨ (v = 0 ∧ f (64 * t + c) ≠ 1 ∧ ¬ (0 ≤ zmv w hh (c : Int) (d : Int) ∧ f (64 * (t + 1) + (zmv w hh (c : Int) (d : Int)).toNat) = 1))) : zIn w hh c0 (fun i => if i = 64 * t + c then v else f i) T t c (d + 1) := by
  obtain ⟨g1, g2, g3, g4⟩ := g
  refine ⟨fun t2 c2 a b => ?_, fun t2 c2 a b e1 e2 => ?_, ?_, fun x y q h1 h2 h3 h4 => ?_⟩
  · have q : ¬ 64 * t2 + c2 = 64 * t + c := by omega
    simp only [if_neg q]
    exact g1 t2 c2 a b
  · by_cases q : 64 * t2 + c2 = 64 * t + c
    · have q1 : t2 = t := by omega
      have q2 : c2 = c := by omega
      subst q1 q2
      simp only [if_pos] at e2
      rcases hv with ⟨-, hv | hv⟩ | hv
      · obtain ⟨d2, r1, r2, r3⟩ := g2 t2 c2 (Nat.le_refl _) b e1 hv
        refine ⟨d2, r1, r2, ?_⟩
        have q3 : ¬ 64 * (t2 + 1) + (zmv w hh (c2 : Int) (d2 : Int)).toNat = 64 * t2 + c2 := by omega
        simp only [if_neg q3]
        exact r3
      · refine ⟨d, hd, hv.1, ?_⟩
        have q3 : ¬ 64 * (t2 + 1) + (zmv w hh (c2 : Int) (d : Int)).toNat = 64 * t2 + c2 := by omega
        simp only [if_neg q3]
        exact hv.2
      · omega
    · simp only [if_neg q] at e2
      obtain ⟨d2, r1, r2, r3⟩ := g2 t2 c2 a b e1 e2
      refine ⟨d2, r1, r2, ?_⟩
      have q3 : ¬ 64 * (t2 + 1) + (zmv w hh (c2 : Int) (d2 : Int)).toNat = 64 * t + c := by omega
      simp only [if_neg q3]
      exact r3
  · obtain ⟨x, x1, x2, x3⟩ := g3
    refine ⟨x, x1, ?_, x3⟩
    have q : ¬ 64 * (t + 1) + x = 64 * t + c := by omega
    simp only [if_neg q]
    exact x2
  · have q3 : ¬ 64 * (t + 1) + (zmv w hh (x : Int) (y : Int)).toNat = 64 * t + c := by omega
    simp only [if_neg q3] at h4
    by_cases q2 : x = c
    · subst q2
      simp only [if_pos]
      rcases hv with ⟨hv, -⟩ | ⟨-, hv1, hv2⟩
      · exact hv
      · exfalso
        rcases Nat.lt_or_ge y d with r | r
        · exact hv1 (g4 x y (Or.inr ⟨rfl, r⟩) h1 h2 h3 h4)
        · have : y = d := by omega
          subst this
          exact hv2 ⟨h3, h4⟩
    · have q4 : ¬ 64 * t + x = 64 * t + c := by omega
      simp only [if_neg q4]
      exact g4 x y (Or.inl (by omega)) h1 h2 h3 h4
def zFR (Θ : Nat → Option Nat) (h h2 : Nat → Nat → Int) (bo : Nat) : Prop := (∀ x k j, Θ x = some k → zinE [(10, 0, 5), (13, 0, 5), (26, 0, 29), (27, 0, 1983), (28, 0, 1983)] k j j = false → h2 x j = h x j) ∧ ∀ j, j < 6 → h2 bo j = h bo j
def zFC (Θ : Nat → Option Nat) (h : Nat → Nat → Int) (a ma we bo ro : Nat) (w hh : Int) : Prop := Θ a = some 35 ∧ Θ ma = some 27 ∧ Θ we = some 28 ∧ Θ bo = some 10 ∧ Θ ro = some 26 ∧ h a 52 = (ma : Int) ∧ h a 53 = (we : Int) ∧ h a 30 = (bo : Int) ∧ h a 54 = (ro : Int) ∧ h a 24 = w ∧ h a 25 = hh ∧ (2 ≤ w ∧ w ≤ 8) ∧ (0 ≤ hh ∧ hh ≤ 8) ∧ 0 ≤ h a 23 ∧ h a 23 ≤ 1
def zFB (η : zRn) (D : va_G) (cy : Nat → ClassId) (L : List Nat) (Θ : Nat → Option Nat) (h : Nat → Nat → Int) (a ma we bo ro : Nat) (w hh : Int) (H0 : Heap) (h2 : Nat → Nat → Int) (H : Heap) (locs : List Loc) : Prop :=
  zFR Θ h h2 bo ∧ zFC Θ h2 a ma we bo ro w hh ∧ zH η zkdm D vwCl cy L Θ h2 H ∧ va_S (fun q => q ∈ L) H0 H locs
theorem zFB_up {D : va_G} {cy : Nat → ClassId} {L : List Nat} {Θ : Nat → Option Nat} {h : Nat → Nat → Int} {a ma we bo ro : Nat} {w hh : Int} {H0 : Heap} {h2 : Nat → Nat → Int} {H H1 : Heap} {locs locs1 : List Loc} (g : zFB η D cy L Θ h a ma we bo ro w hh H0 h2 H locs) {x k j : Nat} {v : Int} (hx : Θ x = some k) (hk : (k = 26 ∧ j < 30) ∨ (k = 27 ∧ j < 1984) ∨ (k = 28 ∧ j < 1984)) (h1 : zH η zkdm D vwCl cy L Θ (zup h2 x j v) H1) (hS : va_S (fun q => q ∈ L) H0 H1 locs1) : zFB η D cy L Θ h a ma we bo ro w hh H0 (zup h2 x j v) H1 locs1 := by
  obtain ⟨⟨g1, g2⟩, ⟨ha, hma, hwe, hbo, hro, c1, c2, c3, c4, c5, c6, c7, c8, c9⟩, -, -⟩ := g
  have hax : a ≠ x := by
    rintro rfl
    rw [ha] at hx
    cases hx
    omega
  have hbx : bo ≠ x := by
    rintro rfl
    rw [hbo] at hx
    cases hx
    omega
  refine ⟨⟨fun y k' i hy hi => ?_, fun i hi => ?_⟩, ⟨ha, hma, hwe, hbo, hro, ?_⟩, h1, hS⟩
  · by_cases q : y = x ∧ i = j
    · obtain ⟨rfl, rfl⟩ := q
      cases hx.symm.trans hy
      exfalso
      have : zinE [(10, 0, 5), (13, 0, 5), (26, 0, 29), (27, 0, 1983), (28, 0, 1983)] k i i = true := by
        rcases hk with ⟨rfl, q⟩ | ⟨rfl, q⟩ | ⟨rfl, q⟩ <;> simp [zinE] <;> omega
      rw [this] at hi
      cases hi
    · rw [zup_ne q]
      exact g1 y k' i hy hi
  · rw [zup_row hbx]
    exact g2 i hi
  · rw [zup_row hax]
    exact ⟨c1, c2, c3, c4, c5, c6, c7, c8, c9⟩
theorem zFB_call {D : va_G} {cy : Nat → ClassId} {L : List Nat} {Θ : Nat → Option Nat} {h : Nat → Nat → Int} {a ma we bo ro : Nat} {w hh : Int} {H0 : Heap} {h2 h3 : Nat → Nat → Int} {H H1 : Heap} {locs locs1 : List Loc} (g : zFB η D cy L Θ h a ma we bo ro w hh H0 h2 H locs) {E : List (Nat × Nat × Nat)} (hE : E.all (fun e => zinE [(10, 0, 5), (13, 0, 5), (26, 0, 29), (27, 0, 1983), (28, 0, 1983)] e.1 e.2.1 e.2.2) = true) (hE35 : ∀ j, zinE E 35 j j = false) (hX : ∀ a k j, Θ a = some k → zinE E k j j = false → h3 a j = h2 a j) (hb : ∀ j, j < 6 → h3 bo j = h2 bo j) (h1 : zH η zkdm D vwCl cy L Θ h3 H1) (hS : va_S (fun q => q ∈ L) H0 H1 locs1) : zFB η D cy L Θ h a ma we bo ro w hh H0 h3 H1 locs1 := by
  obtain ⟨⟨g1, g2⟩, ⟨ha, hma, hwe, hbo, hro, c⟩, -, -⟩ := g
  refine ⟨⟨fun y k' i hy hi => ?_, fun i hi => ?_⟩, ⟨ha, hma, hwe, hbo, hro, ?_⟩, h1, hS⟩
  · rw [hX y k' i hy (z_inc hE hi)]
    exact g1 y k' i hy hi
  · rw [hb i hi]
    exact g2 i hi
  · rw [hX a 35 52 ha (hE35 _), hX a 35 53 ha (hE35 _), hX a 35 30 ha (hE35 _), hX a 35 54 ha (hE35 _), hX a 35 24 ha (hE35 _), hX a 35 25 ha (hE35 _), hX a 35 23 ha (hE35 _)]
    exact c
theorem z_bit {D : va_G} {cy : Nat → ClassId} {L : List Nat} {Θ : Nat → Option Nat} {h : Nat → Nat → Int} {H : Heap} (hH : zH η zkdm D vwCl cy L Θ h H) {b : Nat} (hb : Θ b = some 27 ∨ Θ b = some 28) {j : Nat} (hj : j < 1984) : h b j = 0 ∨ h b j = 1 := by
  rcases hb with hb | hb
  · have h1 := zH_in hH hb zkk_may (j := j) hj
    have e1 : zty zK_may j = (0, 0, 1) := by unfold zty; simp [Nat.mod_one]
    rw [e1] at h1
    have := h1.2
    simp only at this
    omega
  · have h1 := zH_in hH hb zkk_well (j := j) hj
    have e1 : zty zK_well j = (0, 0, 1) := by unfold zty; simp [Nat.mod_one]
    rw [e1] at h1
    have := h1.2
    simp only at this
    omega
theorem hw_fmay {D : va_G} {cy : Nat → ClassId} {L : List Nat} {Θ : Nat → Option Nat} {h : Nat → Nat → Int} {a ma we bo ro : Nat} {w0 hh : Int} {H0 : Heap} {h2 : Nat → Nat → Int} {H : Heap} {locs : List Loc} {p : Program} {l : Launch} {e : Env} {R : Room} {s : State} {m : MethodId} {args : Array Value} {below : List Frame} {meth : Method} {c : Code} {Q : State → Prop} {cc : ByteArray} {pc nL : Nat} {ls : Array Slot} {rest : List Value} (X : hCx D vwCl cy L p s m args c cc nL (tyW cy) zTW RX12) (g : zFB η D cy L Θ h a ma we bo ro w0 hh H0 h2 H locs) (hdg : decode cc pc = .ok (.getfield 89, 3)) (w : W p l e R s m args below meth c H locs 0 0 Q (F0 m (pc + 3) ls (.ref (η.1 ma) :: rest))) : W p l e R s m args below meth c H locs 0 0 Q (F0 m pc ls (.ref (η.1 a) :: rest)) := by
  obtain ⟨gR, ⟨ha, hma, hwe, hbo, hro, f52, f53, f30, f54, f24, f25, hw, hhh, hsea⟩, hH, hS⟩ := g
  refine hw_get X zfh_89 ha zkm ⟨rfl, rfl⟩ (by decide) hH hdg ?_
  rw [zty_may, f52]
  simp only
  rw [z_dr 27 ma]
  exact w
theorem hw_fwell {D : va_G} {cy : Nat → ClassId} {L : List Nat} {Θ : Nat → Option Nat} {h : Nat → Nat → Int} {a ma we bo ro : Nat} {w0 hh : Int} {H0 : Heap} {h2 : Nat → Nat → Int} {H : Heap} {locs : List Loc} {p : Program} {l : Launch} {e : Env} {R : Room} {s : State} {m : MethodId} {args : Array Value} {below : List Frame} {meth : Method} {c : Code} {Q : State → Prop} {cc : ByteArray} {pc nL : Nat} {ls : Array Slot} {rest : List Value} (X : hCx D vwCl cy L p s m args c cc nL (tyW cy) zTW RX12) (g : zFB η D cy L Θ h a ma we bo ro w0 hh H0 h2 H locs) (hdg : decode cc pc = .ok (.getfield 93, 3)) (w : W p l e R s m args below meth c H locs 0 0 Q (F0 m (pc + 3) ls (.ref (η.1 we) :: rest))) : W p l e R s m args below meth c H locs 0 0 Q (F0 m pc ls (.ref (η.1 a) :: rest)) := by
  obtain ⟨gR, ⟨ha, hma, hwe, hbo, hro, f52, f53, f30, f54, f24, f25, hw, hhh, hsea⟩, hH, hS⟩ := g
  refine hw_get X zfh_93 ha zkm ⟨rfl, rfl⟩ (by decide) hH hdg ?_
  rw [zty_well, f53]
  simp only
  rw [z_dr 28 we]
  exact w
theorem hw_frows {D : va_G} {cy : Nat → ClassId} {L : List Nat} {Θ : Nat → Option Nat} {h : Nat → Nat → Int} {a ma we bo ro : Nat} {w0 hh : Int} {H0 : Heap} {h2 : Nat → Nat → Int} {H : Heap} {locs : List Loc} {p : Program} {l : Launch} {e : Env} {R : Room} {s : State} {m : MethodId} {args : Array Value} {below : List Frame} {meth : Method} {c : Code} {Q : State → Prop} {cc : ByteArray} {pc nL : Nat} {ls : Array Slot} {rest : List Value} (X : hCx D vwCl cy L p s m args c cc nL (tyW cy) zTW RX12) (g : zFB η D cy L Θ h a ma we bo ro w0 hh H0 h2 H locs) (hdg : decode cc pc = .ok (.getfield 96, 3)) (w : W p l e R s m args below meth c H locs 0 0 Q (F0 m (pc + 3) ls (.ref (η.1 ro) :: rest))) : W p l e R s m args below meth c H locs 0 0 Q (F0 m pc ls (.ref (η.1 a) :: rest)) := by
  obtain ⟨gR, ⟨ha, hma, hwe, hbo, hro, f52, f53, f30, f54, f24, f25, hw, hhh, hsea⟩, hH, hS⟩ := g
  refine hw_get X zfh_96 ha zkm ⟨rfl, rfl⟩ (by decide) hH hdg ?_
  rw [zty_rows, f54]
  simp only
  rw [z_dr 26 ro]
  exact w
theorem hw_fboatAt {D : va_G} {cy : Nat → ClassId} {L : List Nat} {Θ : Nat → Option Nat} {h : Nat → Nat → Int} {a ma we bo ro : Nat} {w0 hh : Int} {H0 : Heap} {h2 : Nat → Nat → Int} {H : Heap} {locs : List Loc} {p : Program} {l : Launch} {e : Env} {R : Room} {s : State} {m : MethodId} {args : Array Value} {below : List Frame} {meth : Method} {c : Code} {Q : State → Prop} {cc : ByteArray} {pc nL : Nat} {ls : Array Slot} {rest : List Value} (X : hCx D vwCl cy L p s m args c cc nL (tyW cy) zTW RX12) (g : zFB η D cy L Θ h a ma we bo ro w0 hh H0 h2 H locs) (hdg : decode cc pc = .ok (.getfield 41, 3)) (w : W p l e R s m args below meth c H locs 0 0 Q (F0 m (pc + 3) ls (.ref (η.1 bo) :: rest))) : W p l e R s m args below meth c H locs 0 0 Q (F0 m pc ls (.ref (η.1 a) :: rest)) := by
  obtain ⟨gR, ⟨ha, hma, hwe, hbo, hro, f52, f53, f30, f54, f24, f25, hw, hhh, hsea⟩, hH, hS⟩ := g
  refine hw_get X zfh_41 ha zkm ⟨rfl, rfl⟩ (by decide) hH hdg ?_
  rw [zty_boatAt, f30]
  simp only
  rw [z_dr 10 bo]
  exact w
theorem hw_fwide {D : va_G} {cy : Nat → ClassId} {L : List Nat} {Θ : Nat → Option Nat} {h : Nat → Nat → Int} {a ma we bo ro : Nat} {w0 hh : Int} {H0 : Heap} {h2 : Nat → Nat → Int} {H : Heap} {locs : List Loc} {p : Program} {l : Launch} {e : Env} {R : Room} {s : State} {m : MethodId} {args : Array Value} {below : List Frame} {meth : Method} {c : Code} {Q : State → Prop} {cc : ByteArray} {pc nL : Nat} {ls : Array Slot} {rest : List Value} (X : hCx D vwCl cy L p s m args c cc nL (tyW cy) zTW RX12) (g : zFB η D cy L Θ h a ma we bo ro w0 hh H0 h2 H locs) (hdg : decode cc pc = .ok (.getfield 289, 3)) (w : W p l e R s m args below meth c H locs 0 0 Q (F0 m (pc + 3) ls (.int (Int32.ofInt w0) :: rest))) : W p l e R s m args below meth c H locs 0 0 Q (F0 m pc ls (.ref (η.1 a) :: rest)) := by
  obtain ⟨gR, ⟨ha, hma, hwe, hbo, hro, f52, f53, f30, f54, f24, f25, hw, hhh, hsea⟩, hH, hS⟩ := g
  refine hw_get X zfh_289 ha zkm ⟨rfl, rfl⟩ (by decide) hH hdg ?_
  rw [zty_wide, f24]
  exact w
theorem hw_fhigh {D : va_G} {cy : Nat → ClassId} {L : List Nat} {Θ : Nat → Option Nat} {h : Nat → Nat → Int} {a ma we bo ro : Nat} {w0 hh : Int} {H0 : Heap} {h2 : Nat → Nat → Int} {H : Heap} {locs : List Loc} {p : Program} {l : Launch} {e : Env} {R : Room} {s : State} {m : MethodId} {args : Array Value} {below : List Frame} {meth : Method} {c : Code} {Q : State → Prop} {cc : ByteArray} {pc nL : Nat} {ls : Array Slot} {rest : List Value} (X : hCx D vwCl cy L p s m args c cc nL (tyW cy) zTW RX12) (g : zFB η D cy L Θ h a ma we bo ro w0 hh H0 h2 H locs) (hdg : decode cc pc = .ok (.getfield 292, 3)) (w : W p l e R s m args below meth c H locs 0 0 Q (F0 m (pc + 3) ls (.int (Int32.ofInt hh) :: rest))) : W p l e R s m args below meth c H locs 0 0 Q (F0 m pc ls (.ref (η.1 a) :: rest)) := by
  obtain ⟨gR, ⟨ha, hma, hwe, hbo, hro, f52, f53, f30, f54, f24, f25, hw, hhh, hsea⟩, hH, hS⟩ := g
  refine hw_get X zfh_292 ha zkm ⟨rfl, rfl⟩ (by decide) hH hdg ?_
  rw [zty_high, f25]
  exact w
theorem zt_may (j : Nat) : zty zK_may j = (0, 0, 1) := by unfold zty; simp [Nat.mod_one]
theorem hw_ld_may {D : va_G} {cy : Nat → ClassId} {L : List Nat} {Θ : Nat → Option Nat} {h : Nat → Nat → Int} {a ma we bo ro : Nat} {w0 hh : Int} {H0 : Heap} {h2 : Nat → Nat → Int} {H : Heap} {locs : List Loc} {p : Program} {l : Launch} {e : Env} {R : Room} {s : State} {m : MethodId} {args : Array Value} {below : List Frame} {meth : Method} {c : Code} {Q : State → Prop} {cc : ByteArray} {pc nL : Nat} {ls : Array Slot} {rest : List Value} (X : hCx D vwCl cy L p s m args c cc nL (tyW cy) zTW RX12) (g : zFB η D cy L Θ h a ma we bo ro w0 hh H0 h2 H locs) {n : Nat} (hn : n < 1984) (hdg : decode cc pc = .ok (.baload, 1)) (w : W p l e R s m args below meth c H locs 0 0 Q (F0 m (pc + 1) ls (.int (Int32.ofInt (h2 ma n)) :: rest))) : W p l e R s m args below meth c H locs 0 0 Q (F0 m pc ls (.int (Int32.ofInt (n : Int)) :: .ref (η.1 ma) :: rest)) := by
  obtain ⟨gR, ⟨ha, hma, hwe, hbo, hro, f52, f53, f30, f54, f24, f25, hw, hhh, hsea⟩, hH, hS⟩ := g
  have ti : (Int32.ofInt (n : Int)).toInt = (n : Int) := z_toi (by omega) (by omega)
  refine hw_bald X hma zkk_may ⟨rfl, Or.inr rfl⟩ (by show _ ∧ _ < (1984 : Int); rw [ti]; omega) hH hdg ?_
  rw [ti, Int.toNat_natCast]
  exact w
theorem hw_st_may {D : va_G} {cy : Nat → ClassId} {L : List Nat} {Θ : Nat → Option Nat} {h : Nat → Nat → Int} {a ma we bo ro : Nat} {w0 hh : Int} {H0 : Heap} {h2 : Nat → Nat → Int} {H : Heap} {locs : List Loc} {p : Program} {l : Launch} {e : Env} {R : Room} {s : State} {m : MethodId} {args : Array Value} {below : List Frame} {meth : Method} {c : Code} {Q : State → Prop} {cc : ByteArray} {pc nL : Nat} {ls : Array Slot} {rest : List Value} (X : hCx D vwCl cy L p s m args c cc nL (tyW cy) zTW RX12) (g : zFB η D cy L Θ h a ma we bo ro w0 hh H0 h2 H locs) {n : Nat} {v : Int} (hn : n < 1984) (hv : v = 0 ∨ v = 1) (hdg : decode cc pc = .ok (.bastore, 1)) (w : ∀ (H1 : Heap) (locs1 : List Loc), zFB η D cy L Θ h a ma we bo ro w0 hh H0 (zup h2 ma n v) H1 locs1 → W p l e R s m args below meth c H1 locs1 0 0 Q (F0 m (pc + 1) ls rest)) : W p l e R s m args below meth c H locs 0 0 Q (F0 m pc ls (.int (Int32.ofInt v) :: .int (Int32.ofInt (n : Int)) :: .ref (η.1 ma) :: rest)) := by
  have g0 := g
  obtain ⟨gR, ⟨ha, hma, hwe, hbo, hro, f52, f53, f30, f54, f24, f25, hw, hhh, hsea⟩, hH, hS⟩ := g
  have ti : (Int32.ofInt (n : Int)).toInt = (n : Int) := z_toi (by omega) (by omega)
  have tv : (Int32.ofInt v).toInt = v := z_toi (by omega) (by omega)
  refine hw_zast X hma zkk_may ⟨rfl, rfl⟩ (by show _ ∧ _ < (1984 : Int); rw [ti]; omega) (by rw [zt_may, tv]; exact ⟨⟨by omega, by omega⟩, by show (0 : Int) ≤ v; omega, by show v ≤ (1 : Int); omega⟩) (by rw [tv]; omega) hH hS hdg (fun H1 locs1 hH1 hS1 => ?_)
  rw [ti, tv, Int.toNat_natCast] at hH1
  exact w H1 locs1 (zFB_up g0 hma (by omega) hH1 hS1)
theorem zt_well (j : Nat) : zty zK_well j = (0, 0, 1) := by unfold zty; simp [Nat.mod_one]
theorem hw_ld_well {D : va_G} {cy : Nat → ClassId} {L : List Nat} {Θ : Nat → Option Nat} {h : Nat → Nat → Int} {a ma we bo ro : Nat} {w0 hh : Int} {H0 : Heap} {h2 : Nat → Nat → Int} {H : Heap} {locs : List Loc} {p : Program} {l : Launch} {e : Env} {R : Room} {s : State} {m : MethodId} {args : Array Value} {below : List Frame} {meth : Method} {c : Code} {Q : State → Prop} {cc : ByteArray} {pc nL : Nat} {ls : Array Slot} {rest : List Value} (X : hCx D vwCl cy L p s m args c cc nL (tyW cy) zTW RX12) (g : zFB η D cy L Θ h a ma we bo ro w0 hh H0 h2 H locs) {n : Nat} (hn : n < 1984) (hdg : decode cc pc = .ok (.baload, 1)) (w : W p l e R s m args below meth c H locs 0 0 Q (F0 m (pc + 1) ls (.int (Int32.ofInt (h2 we n)) :: rest))) : W p l e R s m args below meth c H locs 0 0 Q (F0 m pc ls (.int (Int32.ofInt (n : Int)) :: .ref (η.1 we) :: rest)) := by
  obtain ⟨gR, ⟨ha, hma, hwe, hbo, hro, f52, f53, f30, f54, f24, f25, hw, hhh, hsea⟩, hH, hS⟩ := g
  have ti : (Int32.ofInt (n : Int)).toInt = (n : Int) := z_toi (by omega) (by omega)
  refine hw_bald X hwe zkk_well ⟨rfl, Or.inr rfl⟩ (by show _ ∧ _ < (1984 : Int); rw [ti]; omega) hH hdg ?_
  rw [ti, Int.toNat_natCast]
  exact w
theorem hw_st_well {D : va_G} {cy : Nat → ClassId} {L : List Nat} {Θ : Nat → Option Nat} {h : Nat → Nat → Int} {a ma we bo ro : Nat} {w0 hh : Int} {H0 : Heap} {h2 : Nat → Nat → Int} {H : Heap} {locs : List Loc} {p : Program} {l : Launch} {e : Env} {R : Room} {s : State} {m : MethodId} {args : Array Value} {below : List Frame} {meth : Method} {c : Code} {Q : State → Prop} {cc : ByteArray} {pc nL : Nat} {ls : Array Slot} {rest : List Value} (X : hCx D vwCl cy L p s m args c cc nL (tyW cy) zTW RX12) (g : zFB η D cy L Θ h a ma we bo ro w0 hh H0 h2 H locs) {n : Nat} {v : Int} (hn : n < 1984) (hv : v = 0 ∨ v = 1) (hdg : decode cc pc = .ok (.bastore, 1)) (w : ∀ (H1 : Heap) (locs1 : List Loc), zFB η D cy L Θ h a ma we bo ro w0 hh H0 (zup h2 we n v) H1 locs1 → W p l e R s m args below meth c H1 locs1 0 0 Q (F0 m (pc + 1) ls rest)) : W p l e R s m args below meth c H locs 0 0 Q (F0 m pc ls (.int (Int32.ofInt v) :: .int (Int32.ofInt (n : Int)) :: .ref (η.1 we) :: rest)) := by
  have g0 := g
  obtain ⟨gR, ⟨ha, hma, hwe, hbo, hro, f52, f53, f30, f54, f24, f25, hw, hhh, hsea⟩, hH, hS⟩ := g
  have ti : (Int32.ofInt (n : Int)).toInt = (n : Int) := z_toi (by omega) (by omega)
  have tv : (Int32.ofInt v).toInt = v := z_toi (by omega) (by omega)
  refine hw_zast X hwe zkk_well ⟨rfl, rfl⟩ (by show _ ∧ _ < (1984 : Int); rw [ti]; omega) (by rw [zt_well, tv]; exact ⟨⟨by omega, by omega⟩, by show (0 : Int) ≤ v; omega, by show v ≤ (1 : Int); omega⟩) (by rw [tv]; omega) hH hS hdg (fun H1 locs1 hH1 hS1 => ?_)
  rw [ti, tv, Int.toNat_natCast] at hH1
  exact w H1 locs1 (zFB_up g0 hwe (by omega) hH1 hS1)
end
section
variable {η : zRn}
/-! findSoon: its loops -/
theorem zu_X12_findSoon_0 : decode cX12_findSoon 0 = .ok (.iconst 0, 1) := by decide +kernel
theorem zu_X12_findSoon_1 : decode cX12_findSoon 1 = .ok (.istore_n 3, 1) := by decide +kernel
theorem zu_X12_findSoon_2 : decode cX12_findSoon 2 = .ok (.iload_n 3, 1) := by decide +kernel
theorem zu_X12_findSoon_3 : decode cX12_findSoon 3 = .ok (.aload_n 0, 1) := by decide +kernel
theorem zu_X12_findSoon_4 : decode cX12_findSoon 4 = .ok (.getfield 89, 3) := by decide +kernel
theorem zu_X12_findSoon_7 : decode cX12_findSoon 7 = .ok (.arraylength, 1) := by decide +kernel
theorem zu_X12_findSoon_8 : decode cX12_findSoon 8 = .ok (.if_icmp .ge 23, 3) := by decide +kernel
theorem zu_X12_findSoon_11 : decode cX12_findSoon 11 = .ok (.aload_n 0, 1) := by decide +kernel
theorem zu_X12_findSoon_12 : decode cX12_findSoon 12 = .ok (.getfield 89, 3) := by decide +kernel
theorem zu_X12_findSoon_15 : decode cX12_findSoon 15 = .ok (.iload_n 3, 1) := by decide +kernel
theorem zu_X12_findSoon_16 : decode cX12_findSoon 16 = .ok (.iconst 0, 1) := by decide +kernel
theorem zu_X12_findSoon_17 : decode cX12_findSoon 17 = .ok (.bastore, 1) := by decide +kernel
theorem zu_X12_findSoon_18 : decode cX12_findSoon 18 = .ok (.aload_n 0, 1) := by decide +kernel
theorem zu_X12_findSoon_19 : decode cX12_findSoon 19 = .ok (.getfield 93, 3) := by decide +kernel
theorem zu_X12_findSoon_22 : decode cX12_findSoon 22 = .ok (.iload_n 3, 1) := by decide +kernel
theorem zu_X12_findSoon_23 : decode cX12_findSoon 23 = .ok (.iconst 0, 1) := by decide +kernel
theorem zu_X12_findSoon_24 : decode cX12_findSoon 24 = .ok (.bastore, 1) := by decide +kernel
theorem zu_X12_findSoon_25 : decode cX12_findSoon 25 = .ok (.iinc 3 1, 3) := by decide +kernel
theorem zu_X12_findSoon_28 : decode cX12_findSoon 28 = .ok (.goto (-26), 3) := by decide +kernel
theorem zu_X12_findSoon_31 : decode cX12_findSoon 31 = .ok (.aload_n 0, 1) := by decide +kernel
theorem zu_X12_findSoon_32 : decode cX12_findSoon 32 = .ok (.getfield 89, 3) := by decide +kernel
theorem zu_X12_findSoon_35 : decode cX12_findSoon 35 = .ok (.aload_n 0, 1) := by decide +kernel
theorem zu_X12_findSoon_36 : decode cX12_findSoon 36 = .ok (.getfield 41, 3) := by decide +kernel
theorem zu_X12_findSoon_39 : decode cX12_findSoon 39 = .ok (.iload_n 1, 1) := by decide +kernel
theorem zu_X12_findSoon_40 : decode cX12_findSoon 40 = .ok (.iaload, 1) := by decide +kernel
theorem zu_X12_findSoon_41 : decode cX12_findSoon 41 = .ok (.iconst 1, 1) := by decide +kernel
theorem zu_X12_findSoon_42 : decode cX12_findSoon 42 = .ok (.bastore, 1) := by decide +kernel
theorem zu_X12_findSoon_43 : decode cX12_findSoon 43 = .ok (.iconst (-1), 1) := by decide +kernel
theorem zu_X12_findSoon_44 : decode cX12_findSoon 44 = .ok (.istore_n 3, 1) := by decide +kernel
theorem zu_X12_findSoon_45 : decode cX12_findSoon 45 = .ok (.iconst 0, 1) := by decide +kernel
theorem zu_X12_findSoon_46 : decode cX12_findSoon 46 = .ok (.istore 4, 2) := by decide +kernel
theorem zu_X12_findSoon_48 : decode cX12_findSoon 48 = .ok (.iload 4, 2) := by decide +kernel
theorem zu_X12_findSoon_50 : decode cX12_findSoon 50 = .ok (.bipush 30, 2) := by decide +kernel
theorem zu_X12_findSoon_52 : decode cX12_findSoon 52 = .ok (.if_icmp .gt 139, 3) := by decide +kernel
theorem zu_X12_findSoon_55 : decode cX12_findSoon 55 = .ok (.iload_n 3, 1) := by decide +kernel
theorem zu_X12_findSoon_56 : decode cX12_findSoon 56 = .ok (.iconst (-1), 1) := by decide +kernel
theorem zu_X12_findSoon_57 : decode cX12_findSoon 57 = .ok (.if_icmp .ne 134, 3) := by decide +kernel
theorem zu_X12_findSoon_60 : decode cX12_findSoon 60 = .ok (.iconst 0, 1) := by decide +kernel
theorem zu_X12_findSoon_61 : decode cX12_findSoon 61 = .ok (.istore 5, 2) := by decide +kernel
theorem zu_X12_findSoon_63 : decode cX12_findSoon 63 = .ok (.iload 5, 2) := by decide +kernel
theorem zu_X12_findSoon_65 : decode cX12_findSoon 65 = .ok (.aload_n 0, 1) := by decide +kernel
theorem zu_X12_findSoon_66 : decode cX12_findSoon 66 = .ok (.getfield 289, 3) := by decide +kernel
theorem zu_X12_findSoon_69 : decode cX12_findSoon 69 = .ok (.aload_n 0, 1) := by decide +kernel
theorem zu_X12_findSoon_70 : decode cX12_findSoon 70 = .ok (.getfield 292, 3) := by decide +kernel
theorem zu_X12_findSoon_73 : decode cX12_findSoon 73 = .ok (.imul, 1) := by decide +kernel
theorem zu_X12_findSoon_74 : decode cX12_findSoon 74 = .ok (.if_icmp .ge 107, 3) := by decide +kernel
theorem zu_X12_findSoon_77 : decode cX12_findSoon 77 = .ok (.aload_n 0, 1) := by decide +kernel
theorem zu_X12_findSoon_78 : decode cX12_findSoon 78 = .ok (.getfield 89, 3) := by decide +kernel
theorem zu_X12_findSoon_81 : decode cX12_findSoon 81 = .ok (.bipush 64, 2) := by decide +kernel
theorem zu_X12_findSoon_83 : decode cX12_findSoon 83 = .ok (.iload 4, 2) := by decide +kernel
theorem zu_X12_findSoon_85 : decode cX12_findSoon 85 = .ok (.imul, 1) := by decide +kernel
theorem zu_X12_findSoon_86 : decode cX12_findSoon 86 = .ok (.iload 5, 2) := by decide +kernel
theorem zu_X12_findSoon_88 : decode cX12_findSoon 88 = .ok (.iadd, 1) := by decide +kernel
theorem zu_X12_findSoon_89 : decode cX12_findSoon 89 = .ok (.baload, 1) := by decide +kernel
theorem zu_X12_findSoon_90 : decode cX12_findSoon 90 = .ok (.ifCond .eq 85, 3) := by decide +kernel
theorem zu_X12_findSoon_93 : decode cX12_findSoon 93 = .ok (.aload_n 0, 1) := by decide +kernel
theorem zu_X12_findSoon_94 : decode cX12_findSoon 94 = .ok (.iload_n 1, 1) := by decide +kernel
theorem zu_X12_findSoon_95 : decode cX12_findSoon 95 = .ok (.iload 5, 2) := by decide +kernel
theorem zu_X12_findSoon_97 : decode cX12_findSoon 97 = .ok (.iload_n 2, 1) := by decide +kernel
theorem zu_X12_findSoon_98 : decode cX12_findSoon 98 = .ok (.invokevirtual 418, 3) := by decide +kernel
theorem zu_X12_findSoon_101 : decode cX12_findSoon 101 = .ok (.ifCond .eq 20, 3) := by decide +kernel
theorem zu_X12_findSoon_104 : decode cX12_findSoon 104 = .ok (.aload_n 0, 1) := by decide +kernel
theorem zu_X12_findSoon_105 : decode cX12_findSoon 105 = .ok (.getfield 93, 3) := by decide +kernel
theorem zu_X12_findSoon_108 : decode cX12_findSoon 108 = .ok (.bipush 64, 2) := by decide +kernel
theorem zu_X12_findSoon_110 : decode cX12_findSoon 110 = .ok (.iload 4, 2) := by decide +kernel
theorem zu_X12_findSoon_112 : decode cX12_findSoon 112 = .ok (.imul, 1) := by decide +kernel
theorem zu_X12_findSoon_113 : decode cX12_findSoon 113 = .ok (.iload 5, 2) := by decide +kernel
theorem zu_X12_findSoon_115 : decode cX12_findSoon 115 = .ok (.iadd, 1) := by decide +kernel
theorem zu_X12_findSoon_116 : decode cX12_findSoon 116 = .ok (.iconst 1, 1) := by decide +kernel
theorem zu_X12_findSoon_117 : decode cX12_findSoon 117 = .ok (.bastore, 1) := by decide +kernel
theorem zu_X12_findSoon_118 : decode cX12_findSoon 118 = .ok (.iload 4, 2) := by decide +kernel
theorem zu_X12_findSoon_120 : decode cX12_findSoon 120 = .ok (.istore_n 3, 1) := by decide +kernel
theorem zu_X12_findSoon_121 : decode cX12_findSoon 121 = .ok (.iconst 0, 1) := by decide +kernel
theorem zu_X12_findSoon_122 : decode cX12_findSoon 122 = .ok (.istore 6, 2) := by decide +kernel
theorem zu_X12_findSoon_124 : decode cX12_findSoon 124 = .ok (.iload 6, 2) := by decide +kernel
theorem zu_X12_findSoon_126 : decode cX12_findSoon 126 = .ok (.iconst 4, 1) := by decide +kernel
theorem zu_X12_findSoon_127 : decode cX12_findSoon 127 = .ok (.if_icmp .gt 48, 3) := by decide +kernel
theorem zu_X12_findSoon_130 : decode cX12_findSoon 130 = .ok (.iload 4, 2) := by decide +kernel
theorem zu_X12_findSoon_132 : decode cX12_findSoon 132 = .ok (.bipush 30, 2) := by decide +kernel
theorem zu_X12_findSoon_134 : decode cX12_findSoon 134 = .ok (.if_icmp .ge 41, 3) := by decide +kernel
theorem zu_X12_findSoon_137 : decode cX12_findSoon 137 = .ok (.aload_n 0, 1) := by decide +kernel
theorem zu_X12_findSoon_138 : decode cX12_findSoon 138 = .ok (.iload 5, 2) := by decide +kernel
theorem zu_X12_findSoon_140 : decode cX12_findSoon 140 = .ok (.iload 6, 2) := by decide +kernel
theorem zu_X12_findSoon_142 : decode cX12_findSoon 142 = .ok (.invokevirtual 421, 3) := by decide +kernel
theorem zu_X12_findSoon_145 : decode cX12_findSoon 145 = .ok (.istore 7, 2) := by decide +kernel
theorem zu_X12_findSoon_147 : decode cX12_findSoon 147 = .ok (.iload 7, 2) := by decide +kernel
theorem zu_X12_findSoon_149 : decode cX12_findSoon 149 = .ok (.iconst (-1), 1) := by decide +kernel
theorem zu_X12_findSoon_150 : decode cX12_findSoon 150 = .ok (.if_icmp .eq 19, 3) := by decide +kernel
theorem zu_X12_findSoon_153 : decode cX12_findSoon 153 = .ok (.aload_n 0, 1) := by decide +kernel
theorem zu_X12_findSoon_154 : decode cX12_findSoon 154 = .ok (.getfield 89, 3) := by decide +kernel
theorem zu_X12_findSoon_157 : decode cX12_findSoon 157 = .ok (.bipush 64, 2) := by decide +kernel
theorem zu_X12_findSoon_159 : decode cX12_findSoon 159 = .ok (.iload 4, 2) := by decide +kernel
theorem zu_X12_findSoon_161 : decode cX12_findSoon 161 = .ok (.iconst 1, 1) := by decide +kernel
theorem zu_X12_findSoon_162 : decode cX12_findSoon 162 = .ok (.iadd, 1) := by decide +kernel
theorem zu_X12_findSoon_163 : decode cX12_findSoon 163 = .ok (.imul, 1) := by decide +kernel
theorem zu_X12_findSoon_164 : decode cX12_findSoon 164 = .ok (.iload 7, 2) := by decide +kernel
theorem zu_X12_findSoon_166 : decode cX12_findSoon 166 = .ok (.iadd, 1) := by decide +kernel
theorem zu_X12_findSoon_167 : decode cX12_findSoon 167 = .ok (.iconst 1, 1) := by decide +kernel
theorem zu_X12_findSoon_168 : decode cX12_findSoon 168 = .ok (.bastore, 1) := by decide +kernel
theorem zu_X12_findSoon_169 : decode cX12_findSoon 169 = .ok (.iinc 6 1, 3) := by decide +kernel
theorem zu_X12_findSoon_172 : decode cX12_findSoon 172 = .ok (.goto (-48), 3) := by decide +kernel
theorem zu_X12_findSoon_175 : decode cX12_findSoon 175 = .ok (.iinc 5 1, 3) := by decide +kernel
theorem zu_X12_findSoon_178 : decode cX12_findSoon 178 = .ok (.goto (-115), 3) := by decide +kernel
theorem zu_X12_findSoon_181 : decode cX12_findSoon 181 = .ok (.aload_n 0, 1) := by decide +kernel
theorem zu_X12_findSoon_182 : decode cX12_findSoon 182 = .ok (.invokevirtual 400, 3) := by decide +kernel
theorem zu_X12_findSoon_185 : decode cX12_findSoon 185 = .ok (.iinc 4 1, 3) := by decide +kernel
theorem zu_X12_findSoon_188 : decode cX12_findSoon 188 = .ok (.goto (-140), 3) := by decide +kernel
theorem zu_X12_findSoon_191 : decode cX12_findSoon 191 = .ok (.iload_n 3, 1) := by decide +kernel
theorem zu_X12_findSoon_192 : decode cX12_findSoon 192 = .ok (.iconst 1, 1) := by decide +kernel
theorem zu_X12_findSoon_193 : decode cX12_findSoon 193 = .ok (.isub, 1) := by decide +kernel
theorem zu_X12_findSoon_194 : decode cX12_findSoon 194 = .ok (.istore 4, 2) := by decide +kernel
theorem zu_X12_findSoon_196 : decode cX12_findSoon 196 = .ok (.iload 4, 2) := by decide +kernel
theorem zu_X12_findSoon_198 : decode cX12_findSoon 198 = .ok (.ifCond .lt 115, 3) := by decide +kernel
theorem zu_X12_findSoon_201 : decode cX12_findSoon 201 = .ok (.iconst 0, 1) := by decide +kernel
theorem zu_X12_findSoon_202 : decode cX12_findSoon 202 = .ok (.istore 5, 2) := by decide +kernel
theorem zu_X12_findSoon_204 : decode cX12_findSoon 204 = .ok (.iload 5, 2) := by decide +kernel
theorem zu_X12_findSoon_206 : decode cX12_findSoon 206 = .ok (.aload_n 0, 1) := by decide +kernel
theorem zu_X12_findSoon_207 : decode cX12_findSoon 207 = .ok (.getfield 289, 3) := by decide +kernel
theorem zu_X12_findSoon_210 : decode cX12_findSoon 210 = .ok (.aload_n 0, 1) := by decide +kernel
theorem zu_X12_findSoon_211 : decode cX12_findSoon 211 = .ok (.getfield 292, 3) := by decide +kernel
theorem zu_X12_findSoon_214 : decode cX12_findSoon 214 = .ok (.imul, 1) := by decide +kernel
theorem zu_X12_findSoon_215 : decode cX12_findSoon 215 = .ok (.if_icmp .ge 92, 3) := by decide +kernel
theorem zu_X12_findSoon_218 : decode cX12_findSoon 218 = .ok (.iconst 0, 1) := by decide +kernel
theorem zu_X12_findSoon_219 : decode cX12_findSoon 219 = .ok (.istore 6, 2) := by decide +kernel
theorem zu_X12_findSoon_221 : decode cX12_findSoon 221 = .ok (.iload 6, 2) := by decide +kernel
theorem zu_X12_findSoon_223 : decode cX12_findSoon 223 = .ok (.iconst 4, 1) := by decide +kernel
theorem zu_X12_findSoon_224 : decode cX12_findSoon 224 = .ok (.if_icmp .gt 77, 3) := by decide +kernel
theorem zu_X12_findSoon_227 : decode cX12_findSoon 227 = .ok (.aload_n 0, 1) := by decide +kernel
theorem zu_X12_findSoon_228 : decode cX12_findSoon 228 = .ok (.iload 5, 2) := by decide +kernel
theorem zu_X12_findSoon_230 : decode cX12_findSoon 230 = .ok (.iload 6, 2) := by decide +kernel
theorem zu_X12_findSoon_232 : decode cX12_findSoon 232 = .ok (.invokevirtual 421, 3) := by decide +kernel
theorem zu_X12_findSoon_235 : decode cX12_findSoon 235 = .ok (.istore 7, 2) := by decide +kernel
theorem zu_X12_findSoon_237 : decode cX12_findSoon 237 = .ok (.aload_n 0, 1) := by decide +kernel
theorem zu_X12_findSoon_238 : decode cX12_findSoon 238 = .ok (.getfield 93, 3) := by decide +kernel
theorem zu_X12_findSoon_241 : decode cX12_findSoon 241 = .ok (.bipush 64, 2) := by decide +kernel
theorem zu_X12_findSoon_243 : decode cX12_findSoon 243 = .ok (.iload 4, 2) := by decide +kernel
theorem zu_X12_findSoon_245 : decode cX12_findSoon 245 = .ok (.imul, 1) := by decide +kernel
theorem zu_X12_findSoon_246 : decode cX12_findSoon 246 = .ok (.iload 5, 2) := by decide +kernel
theorem zu_X12_findSoon_248 : decode cX12_findSoon 248 = .ok (.iadd, 1) := by decide +kernel
theorem zu_X12_findSoon_249 : decode cX12_findSoon 249 = .ok (.aload_n 0, 1) := by decide +kernel
theorem zu_X12_findSoon_250 : decode cX12_findSoon 250 = .ok (.getfield 93, 3) := by decide +kernel
theorem zu_X12_findSoon_253 : decode cX12_findSoon 253 = .ok (.bipush 64, 2) := by decide +kernel
theorem zu_X12_findSoon_255 : decode cX12_findSoon 255 = .ok (.iload 4, 2) := by decide +kernel
theorem zu_X12_findSoon_257 : decode cX12_findSoon 257 = .ok (.imul, 1) := by decide +kernel
theorem zu_X12_findSoon_258 : decode cX12_findSoon 258 = .ok (.iload 5, 2) := by decide +kernel
theorem zu_X12_findSoon_260 : decode cX12_findSoon 260 = .ok (.iadd, 1) := by decide +kernel
theorem zu_X12_findSoon_261 : decode cX12_findSoon 261 = .ok (.baload, 1) := by decide +kernel
theorem zu_X12_findSoon_262 : decode cX12_findSoon 262 = .ok (.ifCond .ne 27, 3) := by decide +kernel
theorem zu_X12_findSoon_265 : decode cX12_findSoon 265 = .ok (.iload 7, 2) := by decide +kernel
theorem zu_X12_findSoon_267 : decode cX12_findSoon 267 = .ok (.iconst (-1), 1) := by decide +kernel
theorem zu_X12_findSoon_268 : decode cX12_findSoon 268 = .ok (.if_icmp .eq 25, 3) := by decide +kernel
theorem zu_X12_findSoon_271 : decode cX12_findSoon 271 = .ok (.aload_n 0, 1) := by decide +kernel
theorem zu_X12_findSoon_272 : decode cX12_findSoon 272 = .ok (.getfield 93, 3) := by decide +kernel
theorem zu_X12_findSoon_275 : decode cX12_findSoon 275 = .ok (.bipush 64, 2) := by decide +kernel
theorem zu_X12_findSoon_277 : decode cX12_findSoon 277 = .ok (.iload 4, 2) := by decide +kernel
theorem zu_X12_findSoon_279 : decode cX12_findSoon 279 = .ok (.iconst 1, 1) := by decide +kernel
theorem zu_X12_findSoon_280 : decode cX12_findSoon 280 = .ok (.iadd, 1) := by decide +kernel
theorem zu_X12_findSoon_281 : decode cX12_findSoon 281 = .ok (.imul, 1) := by decide +kernel
theorem zu_X12_findSoon_282 : decode cX12_findSoon 282 = .ok (.iload 7, 2) := by decide +kernel
theorem zu_X12_findSoon_284 : decode cX12_findSoon 284 = .ok (.iadd, 1) := by decide +kernel
theorem zu_X12_findSoon_285 : decode cX12_findSoon 285 = .ok (.baload, 1) := by decide +kernel
theorem zu_X12_findSoon_286 : decode cX12_findSoon 286 = .ok (.ifCond .eq 7, 3) := by decide +kernel
theorem zu_X12_findSoon_289 : decode cX12_findSoon 289 = .ok (.iconst 1, 1) := by decide +kernel
theorem zu_X12_findSoon_290 : decode cX12_findSoon 290 = .ok (.goto 4, 3) := by decide +kernel
theorem zu_X12_findSoon_293 : decode cX12_findSoon 293 = .ok (.iconst 0, 1) := by decide +kernel
theorem zu_X12_findSoon_294 : decode cX12_findSoon 294 = .ok (.bastore, 1) := by decide +kernel
theorem zu_X12_findSoon_295 : decode cX12_findSoon 295 = .ok (.iinc 6 1, 3) := by decide +kernel
theorem zu_X12_findSoon_298 : decode cX12_findSoon 298 = .ok (.goto (-77), 3) := by decide +kernel
theorem zu_X12_findSoon_301 : decode cX12_findSoon 301 = .ok (.iinc 5 1, 3) := by decide +kernel
theorem zu_X12_findSoon_304 : decode cX12_findSoon 304 = .ok (.goto (-100), 3) := by decide +kernel
theorem zu_X12_findSoon_307 : decode cX12_findSoon 307 = .ok (.iinc 4 (-1), 3) := by decide +kernel
theorem zu_X12_findSoon_310 : decode cX12_findSoon 310 = .ok (.goto (-114), 3) := by decide +kernel
theorem zu_X12_findSoon_313 : decode cX12_findSoon 313 = .ok (.aload_n 0, 1) := by decide +kernel
theorem zu_X12_findSoon_314 : decode cX12_findSoon 314 = .ok (.getfield 41, 3) := by decide +kernel
theorem zu_X12_findSoon_317 : decode cX12_findSoon 317 = .ok (.iload_n 1, 1) := by decide +kernel
theorem zu_X12_findSoon_318 : decode cX12_findSoon 318 = .ok (.iaload, 1) := by decide +kernel
theorem zu_X12_findSoon_319 : decode cX12_findSoon 319 = .ok (.istore 4, 2) := by decide +kernel
theorem zu_X12_findSoon_321 : decode cX12_findSoon 321 = .ok (.iconst 0, 1) := by decide +kernel
theorem zu_X12_findSoon_322 : decode cX12_findSoon 322 = .ok (.istore 5, 2) := by decide +kernel
theorem zu_X12_findSoon_324 : decode cX12_findSoon 324 = .ok (.iload 5, 2) := by decide +kernel
theorem zu_X12_findSoon_326 : decode cX12_findSoon 326 = .ok (.iload_n 3, 1) := by decide +kernel
theorem zu_X12_findSoon_327 : decode cX12_findSoon 327 = .ok (.if_icmp .ge 73, 3) := by decide +kernel
theorem zu_X12_findSoon_330 : decode cX12_findSoon 330 = .ok (.iconst 0, 1) := by decide +kernel
theorem zu_X12_findSoon_331 : decode cX12_findSoon 331 = .ok (.istore 6, 2) := by decide +kernel
theorem zu_X12_findSoon_333 : decode cX12_findSoon 333 = .ok (.aload_n 0, 1) := by decide +kernel
theorem zu_X12_findSoon_334 : decode cX12_findSoon 334 = .ok (.iload 4, 2) := by decide +kernel
theorem zu_X12_findSoon_336 : decode cX12_findSoon 336 = .ok (.iload 6, 2) := by decide +kernel
theorem zu_X12_findSoon_338 : decode cX12_findSoon 338 = .ok (.invokevirtual 421, 3) := by decide +kernel
theorem zu_X12_findSoon_341 : decode cX12_findSoon 341 = .ok (.iconst (-1), 1) := by decide +kernel
theorem zu_X12_findSoon_342 : decode cX12_findSoon 342 = .ok (.if_icmp .eq 27, 3) := by decide +kernel
theorem zu_X12_findSoon_345 : decode cX12_findSoon 345 = .ok (.aload_n 0, 1) := by decide +kernel
theorem zu_X12_findSoon_346 : decode cX12_findSoon 346 = .ok (.getfield 93, 3) := by decide +kernel
theorem zu_X12_findSoon_349 : decode cX12_findSoon 349 = .ok (.bipush 64, 2) := by decide +kernel
theorem zu_X12_findSoon_351 : decode cX12_findSoon 351 = .ok (.iload 5, 2) := by decide +kernel
theorem zu_X12_findSoon_353 : decode cX12_findSoon 353 = .ok (.iconst 1, 1) := by decide +kernel
theorem zu_X12_findSoon_354 : decode cX12_findSoon 354 = .ok (.iadd, 1) := by decide +kernel
theorem zu_X12_findSoon_355 : decode cX12_findSoon 355 = .ok (.imul, 1) := by decide +kernel
theorem zu_X12_findSoon_356 : decode cX12_findSoon 356 = .ok (.aload_n 0, 1) := by decide +kernel
theorem zu_X12_findSoon_357 : decode cX12_findSoon 357 = .ok (.iload 4, 2) := by decide +kernel
theorem zu_X12_findSoon_359 : decode cX12_findSoon 359 = .ok (.iload 6, 2) := by decide +kernel
theorem zu_X12_findSoon_361 : decode cX12_findSoon 361 = .ok (.invokevirtual 421, 3) := by decide +kernel
theorem zu_X12_findSoon_364 : decode cX12_findSoon 364 = .ok (.iadd, 1) := by decide +kernel
theorem zu_X12_findSoon_365 : decode cX12_findSoon 365 = .ok (.baload, 1) := by decide +kernel
theorem zu_X12_findSoon_366 : decode cX12_findSoon 366 = .ok (.ifCond .ne 9, 3) := by decide +kernel
theorem zu_X12_findSoon_369 : decode cX12_findSoon 369 = .ok (.iinc 6 1, 3) := by decide +kernel
theorem zu_X12_findSoon_372 : decode cX12_findSoon 372 = .ok (.goto (-39), 3) := by decide +kernel
theorem zu_X12_findSoon_375 : decode cX12_findSoon 375 = .ok (.aload_n 0, 1) := by decide +kernel
theorem zu_X12_findSoon_376 : decode cX12_findSoon 376 = .ok (.getfield 96, 3) := by decide +kernel
theorem zu_X12_findSoon_379 : decode cX12_findSoon 379 = .ok (.iload 5, 2) := by decide +kernel
theorem zu_X12_findSoon_381 : decode cX12_findSoon 381 = .ok (.iload 6, 2) := by decide +kernel
theorem zu_X12_findSoon_383 : decode cX12_findSoon 383 = .ok (.iastore, 1) := by decide +kernel
theorem zu_X12_findSoon_384 : decode cX12_findSoon 384 = .ok (.aload_n 0, 1) := by decide +kernel
theorem zu_X12_findSoon_385 : decode cX12_findSoon 385 = .ok (.iload 4, 2) := by decide +kernel
theorem zu_X12_findSoon_387 : decode cX12_findSoon 387 = .ok (.iload 6, 2) := by decide +kernel
theorem zu_X12_findSoon_389 : decode cX12_findSoon 389 = .ok (.invokevirtual 421, 3) := by decide +kernel
theorem zu_X12_findSoon_392 : decode cX12_findSoon 392 = .ok (.istore 4, 2) := by decide +kernel
theorem zu_X12_findSoon_394 : decode cX12_findSoon 394 = .ok (.iinc 5 1, 3) := by decide +kernel
theorem zu_X12_findSoon_397 : decode cX12_findSoon 397 = .ok (.goto (-73), 3) := by decide +kernel
theorem zu_X12_findSoon_400 : decode cX12_findSoon 400 = .ok (.iload_n 3, 1) := by decide +kernel
theorem zu_X12_findSoon_401 : decode cX12_findSoon 401 = .ok (.ireturn, 1) := by decide +kernel
theorem z_mawe {D : va_G} {cy : Nat → ClassId} {L : List Nat} {Θ : Nat → Option Nat} {h : Nat → Nat → Int} {a ma we bo ro : Nat} {w hh : Int} {H0 : Heap} {h2 : Nat → Nat → Int} {H : Heap} {locs : List Loc} (g : zFB η D cy L Θ h a ma we bo ro w hh H0 h2 H locs) : ma ≠ we := by
  rintro rfl
  have h1 := g.2.1.2.1
  rw [g.2.1.2.2.1] at h1
  cases h1
theorem z_rowe {D : va_G} {cy : Nat → ClassId} {L : List Nat} {Θ : Nat → Option Nat} {h : Nat → Nat → Int} {a ma we bo ro : Nat} {w hh : Int} {H0 : Heap} {h2 : Nat → Nat → Int} {H : Heap} {locs : List Loc} (g : zFB η D cy L Θ h a ma we bo ro w hh H0 h2 H locs) : we ≠ ro := by
  rintro rfl
  have h1 := g.2.1.2.2.1
  rw [g.2.1.2.2.2.2.1] at h1
  cases h1
theorem z_dec1 {f : Nat} (hf : f ≤ 100) : Int32.ofInt (f : Int) + Int32.ofInt (-1) = Int32.ofInt ((f : Int) - 1) := by
  rw [z_adi (by omega) (by omega) (by omega), Int.sub_eq_add_neg]
theorem z_n64 {w hh : Int} (hw : 2 ≤ w ∧ w ≤ 8) (hh8 : 0 ≤ hh ∧ hh ≤ 8) : 0 ≤ w * hh ∧ w * hh ≤ 64 := by
  have h1 : 0 ≤ w * hh := Int.mul_nonneg (by omega) (by omega)
  have h2 : w * hh ≤ 8 * hh := Int.mul_le_mul_of_nonneg_right (by omega) (by omega)
  exact ⟨h1, by omega⟩
theorem z_e32 {x y : Int} (h1 : -2147483648 ≤ x ∧ x ≤ 2147483647) (h2 : -2147483648 ≤ y ∧ y ≤ 2147483647) : Int32.ofInt x = Int32.ofInt y ↔ x = y := by
  refine ⟨fun q => ?_, fun q => by rw [q]⟩
  have q2 := congrArg Int32.toInt q
  rw [z_toi h1.1 h1.2, z_toi h2.1 h2.2] at q2
  exact q2
set_option maxHeartbeats 16000000 in
/-- all of may and well to nothing -/
theorem zfs_z {p : Program} {l : Launch} {e : Env} {R : Room} {s : State} {m : MethodId} {args : Array Value} {below : List Frame} {meth : Method} {c : Code} {Q : State → Prop} {D : va_G} {cy : Nat → ClassId} {L : List Nat} {Θ : Nat → Option Nat} {H0 : Heap} (X : hCx D vwCl cy L p s m args c cX12_findSoon 8 (tyW cy) zTW RX12) (hKW : KW D cy s) (hf : 6 ≤ R.frames) (hlo : 139 ≤ R.locals) {h : Nat → Nat → Int} {a ma we bo ro b0 sh : Nat} {w0 hh : Int} 
    (K : ∀ (h2 : Nat → Nat → Int) (H : Heap) (locs : List Loc) (ls : Array Slot), zFB η D cy L Θ h a ma we bo ro w0 hh H0 h2 H locs → (∀ j, j < 1984 → h2 ma j = 0 ∧ h2 we j = 0) → lv_has ls 8 [(2, .int (Int32.ofInt (sh : Int))), (1, .int (Int32.ofInt (b0 : Int))), (0, .ref (η.1 a))] → W p l e R s m args below meth c H locs 0 0 Q (F0 m 31 ls [])) :
    ∀ (f : Nat) (i : Nat) (h2 : Nat → Nat → Int) (H : Heap) (locs : List Loc) (ls : Array Slot), 1984 - i ≤ f → i ≤ 1984 → (∀ j, j < i → h2 ma j = 0 ∧ h2 we j = 0) → zFB η D cy L Θ h a ma we bo ro w0 hh H0 h2 H locs → lv_has ls 8 [(3, .int (Int32.ofInt (i : Int))), (2, .int (Int32.ofInt (sh : Int))), (1, .int (Int32.ofInt (b0 : Int))), (0, .ref (η.1 a))] → W p l e R s m args below meth c H locs 0 0 Q (F0 m 2 ls []) := by
  have hx := X.1
  have hb := X.2.1
  intro f
  induction f with
  | zero =>
    intro i h2 H locs ls hf2 hi hz g hl
    refine lv_iload_n hx hb zu_X12_findSoon_2 rfl (lv_at hl 0 rfl) ?_
    refine lv_aload_n hx hb zu_X12_findSoon_3 rfl (lv_at hl 3 rfl) ?_
    refine hw_fmay X g zu_X12_findSoon_4 ?_
    refine hw_zlen X g.2.1.2.1 zkk_may ⟨rfl, rfl⟩ (n := 1984) rfl g.2.2.1 zu_X12_findSoon_7 ?_
    refine lv_icmp_ge (tgt := 31) hx hb zu_X12_findSoon_8 (by decide) (fun _ => ?_) (fun hc => absurd ((z_le32 (by omega) (by omega)).mpr (by omega)) hc)
    exact K h2 H locs ls g (fun j hj => hz j (by omega)) (lv_sub hl [1, 2, 3] rfl)
  | succ f ih =>
    intro i h2 H locs ls hf2 hi hz g hl
    refine lv_iload_n hx hb zu_X12_findSoon_2 rfl (lv_at hl 0 rfl) ?_
    refine lv_aload_n hx hb zu_X12_findSoon_3 rfl (lv_at hl 3 rfl) ?_
    refine hw_fmay X g zu_X12_findSoon_4 ?_
    refine hw_zlen X g.2.1.2.1 zkk_may ⟨rfl, rfl⟩ (n := 1984) rfl g.2.2.1 zu_X12_findSoon_7 ?_
    refine lv_icmp_ge (tgt := 31) hx hb zu_X12_findSoon_8 (by decide) (fun hc => ?_) (fun hc => ?_)
    · have hc := (z_le32 (by omega) (by omega)).mp hc
      exact K h2 H locs ls g (fun j hj => hz j (by omega)) (lv_sub hl [1, 2, 3] rfl)
    have hlt : i < 1984 := by
      apply Nat.not_le.mp
      intro q
      exact hc ((z_le32 (by omega) (by omega)).mpr (by omega))
    refine lv_aload_n hx hb zu_X12_findSoon_11 rfl (lv_at hl 3 rfl) ?_
    refine hw_fmay X g zu_X12_findSoon_12 ?_
    refine lv_iload_n hx hb zu_X12_findSoon_15 rfl (lv_at hl 0 rfl) ?_
    refine lv_iconst (v := Int32.ofInt 0) hx hb zu_X12_findSoon_16 (by decide) ?_
    refine hw_st_may X g hlt (Or.inl rfl) zu_X12_findSoon_17 (fun H1 locs1 g1 => ?_)
    refine lv_aload_n hx hb zu_X12_findSoon_18 rfl (lv_at hl 3 rfl) ?_
    refine hw_fwell X g1 zu_X12_findSoon_19 ?_
    refine lv_iload_n hx hb zu_X12_findSoon_22 rfl (lv_at hl 0 rfl) ?_
    refine lv_iconst (v := Int32.ofInt 0) hx hb zu_X12_findSoon_23 (by decide) ?_
    refine hw_st_well X g1 hlt (Or.inl rfl) zu_X12_findSoon_24 (fun H2 locs2 g2 => ?_)
    refine lv_iinc (lv' := [(3, .int (Int32.ofInt ((i + 1 : Nat) : Int))), (2, .int (Int32.ofInt (sh : Int))), (1, .int (Int32.ofInt (b0 : Int))), (0, .ref (η.1 a))]) hx hb zu_X12_findSoon_25 hl (k := 0) rfl (z_inc1 (by omega)) (by decide) rfl (fun ls hl => ?_)
    refine lv_goto (tgt := 2) hx hb zu_X12_findSoon_28 (by decide) ?_
    have hne : ma ≠ we := z_mawe g
    refine ih (i + 1) _ H2 locs2 ls (by omega) (by omega) (fun j hj => ?_) g2 hl
    rw [zup_row hne, zup_slf, zup_slf, zup_row hne.symm]
    simp only
    by_cases q : j = i
    · rw [if_pos q, if_pos q]
      exact ⟨rfl, rfl⟩
    · rw [if_neg q, if_neg q]
      exact hz j (by omega)
theorem z_lt32 {x y : Int} (h1 : -2147483648 ≤ x ∧ x ≤ 2147483647) (h2 : -2147483648 ≤ y ∧ y ≤ 2147483647) : Int32.ofInt x < Int32.ofInt y ↔ x < y := by
  rw [Int32.lt_iff_toInt_lt, z_toi h1.1 h1.2, z_toi h2.1 h2.2]
set_option maxHeartbeats 16000000 in
/-- the deeds of a cell, going forward -/
theorem zfs_d {p : Program} {l : Launch} {e : Env} {R : Room} {s : State} {m : MethodId} {args : Array Value} {below : List Frame} {meth : Method} {c : Code} {Q : State → Prop} {D : va_G} {cy : Nat → ClassId} {L : List Nat} {Θ : Nat → Option Nat} {H0 : Heap} (X : hCx D vwCl cy L p s m args c cX12_findSoon 8 (tyW cy) zTW RX12) (hKW : KW D cy s) (hf : 6 ≤ R.frames) (hlo : 139 ≤ R.locals) {h : Nat → Nat → Int} {a ma we bo ro b0 sh : Nat} {w0 hh : Int} {c0 : Int} (t cc0 : Nat) (ht : t ≤ 30) (hc64 : cc0 < 64) (hcn : (cc0 : Int) < w0 * hh) (hR : zRch w0 hh c0 t (cc0 : Int)) (hr : Int) (fw : Nat → Int)
    (K : ∀ (h2 : Nat → Nat → Int) (H : Heap) (locs : List Loc) (ls : Array Slot), zFB η D cy L Θ h a ma we bo ro w0 hh H0 h2 H locs → zMy w0 hh c0 (h2 ma) → h2 we = fw → lv_has ls 8 [(5, .int (Int32.ofInt (cc0 : Int))), (4, .int (Int32.ofInt (t : Int))), (3, .int (Int32.ofInt hr)), (2, .int (Int32.ofInt (sh : Int))), (1, .int (Int32.ofInt (b0 : Int))), (0, .ref (η.1 a))] → W p l e R s m args below meth c H locs 0 0 Q (F0 m 175 ls [])) :
    ∀ (f : Nat) (d : Nat) (h2 : Nat → Nat → Int) (H : Heap) (locs : List Loc) (ls : Array Slot), 5 - d ≤ f → d ≤ 5 → zMy w0 hh c0 (h2 ma) → h2 we = fw → zFB η D cy L Θ h a ma we bo ro w0 hh H0 h2 H locs → lv_has ls 8 [(6, .int (Int32.ofInt (d : Int))), (5, .int (Int32.ofInt (cc0 : Int))), (4, .int (Int32.ofInt (t : Int))), (3, .int (Int32.ofInt hr)), (2, .int (Int32.ofInt (sh : Int))), (1, .int (Int32.ofInt (b0 : Int))), (0, .ref (η.1 a))] → W p l e R s m args below meth c H locs 0 0 Q (F0 m 124 ls []) := by
  have hx := X.1
  have hb := X.2.1
  intro f
  induction f with
  | zero =>
    intro d h2 H locs ls hf2 hd5 hM hW g hl
    refine lv_iload hx hb zu_X12_findSoon_124 (lv_at hl 0 rfl) ?_
    refine lv_iconst (v := Int32.ofInt 4) hx hb zu_X12_findSoon_126 (by decide) ?_
    refine lv_icmp_gt (tgt := 175) hx hb zu_X12_findSoon_127 (by decide) (fun _ => ?_) (fun hc => absurd ((z_lt32 (by omega) (by omega)).mpr (by omega)) hc)
    exact K h2 H locs ls g hM hW (lv_sub hl [1, 2, 3, 4, 5, 6] rfl)
  | succ f ih =>
    intro d h2 H locs ls hf2 hd5 hM hW g hl
    refine lv_iload hx hb zu_X12_findSoon_124 (lv_at hl 0 rfl) ?_
    refine lv_iconst (v := Int32.ofInt 4) hx hb zu_X12_findSoon_126 (by decide) ?_
    refine lv_icmp_gt (tgt := 175) hx hb zu_X12_findSoon_127 (by decide) (fun hc => ?_) (fun hc => ?_)
    · exact K h2 H locs ls g hM hW (lv_sub hl [1, 2, 3, 4, 5, 6] rfl)
    have hd4 : d ≤ 4 := by
      apply Nat.not_lt.mp
      intro q
      exact hc ((z_lt32 (by omega) (by omega)).mpr (by omega))
    refine lv_iload hx hb zu_X12_findSoon_130 (lv_at hl 2 rfl) ?_
    refine lv_bipush (v := Int32.ofInt 30) hx hb zu_X12_findSoon_132 (by decide) ?_
    refine lv_icmp_ge (tgt := 175) hx hb zu_X12_findSoon_134 (by decide) (fun hc => ?_) (fun hc => ?_)
    · exact K h2 H locs ls g hM hW (lv_sub hl [1, 2, 3, 4, 5, 6] rfl)
    have ht29 : t < 30 := by
      apply Nat.not_le.mp
      intro q
      exact hc ((z_le32 (by omega) (by omega)).mpr (by omega))
    have g0 := g
    obtain ⟨gR, ⟨ha, hma, hwe, hbo, hro, f52, f53, f30, f54, f24, f25, hw, hhh, hsea⟩, hH, hS⟩ := g0
    refine lv_aload_n hx hb zu_X12_findSoon_137 rfl (lv_at hl 6 rfl) ?_
    refine lv_iload hx hb zu_X12_findSoon_138 (lv_at hl 1 rfl) ?_
    refine lv_iload hx hb zu_X12_findSoon_140 (lv_at hl 0 rfl) ?_
    refine hw_moved X hKW ha hl.1 (by omega) (by omega) (Nat.le_of_ble_eq_true rfl) hH hd4 f24 f25 (by omega) (by omega) zyt_421 zu_X12_findSoon_142 ?_
    refine lv_istore (lv' := [(7, .int (Int32.ofInt (zmv w0 hh (cc0 : Int) (d : Int)))), (6, .int (Int32.ofInt (d : Int))), (5, .int (Int32.ofInt (cc0 : Int))), (4, .int (Int32.ofInt (t : Int))), (3, .int (Int32.ofInt hr)), (2, .int (Int32.ofInt (sh : Int))), (1, .int (Int32.ofInt (b0 : Int))), (0, .ref (η.1 a))]) hx hb zu_X12_findSoon_145 hl (by decide) rfl (fun ls hl => ?_)
    refine lv_iload hx hb zu_X12_findSoon_147 (lv_at hl 0 rfl) ?_
    refine lv_iconst (v := Int32.ofInt (-1)) hx hb zu_X12_findSoon_149 (by decide) ?_
    have hmv := z_mv63 (w := w0) (hh := hh) (c := (cc0 : Int)) (d := (d : Int)) (by omega) hhh.2 (by omega)
    refine lv_icmp_eq (tgt := 169) hx hb zu_X12_findSoon_150 (by decide) (fun he => ?_) (fun he => ?_)
    · refine lv_iinc (lv' := [(6, .int (Int32.ofInt ((d + 1 : Nat) : Int))), (7, .int (Int32.ofInt (zmv w0 hh (cc0 : Int) (d : Int)))), (5, .int (Int32.ofInt (cc0 : Int))), (4, .int (Int32.ofInt (t : Int))), (3, .int (Int32.ofInt hr)), (2, .int (Int32.ofInt (sh : Int))), (1, .int (Int32.ofInt (b0 : Int))), (0, .ref (η.1 a))]) hx hb zu_X12_findSoon_169 hl (k := 1) rfl (z_inc1 (by omega)) (by decide) rfl (fun ls hl => ?_)
      refine lv_goto (tgt := 124) hx hb zu_X12_findSoon_172 (by decide) ?_
      exact ih (d + 1) h2 H locs ls (by omega) (by omega) hM hW g (lv_sub hl [0, 2, 3, 4, 5, 6, 7] rfl)
    have he : ¬ zmv w0 hh (cc0 : Int) (d : Int) = -1 := fun q => he ((z_e32 (by omega) (by omega)).mpr q)
    obtain ⟨x, hx63, ex⟩ : ∃ x : Nat, x < 64 ∧ zmv w0 hh (cc0 : Int) (d : Int) = (x : Int) := ⟨(zmv w0 hh (cc0 : Int) (d : Int)).toNat, by omega, by omega⟩
    refine lv_aload_n hx hb zu_X12_findSoon_153 rfl (lv_at hl 7 rfl) ?_
    refine hw_fmay X g zu_X12_findSoon_154 ?_
    refine lv_bipush (v := Int32.ofInt 64) hx hb zu_X12_findSoon_157 (by decide) ?_
    refine lv_iload hx hb zu_X12_findSoon_159 (lv_at hl 3 rfl) ?_
    refine lv_iconst (v := Int32.ofInt 1) hx hb zu_X12_findSoon_161 (by decide) ?_
    refine lv_iadd hx hb zu_X12_findSoon_162 ?_
    rw [z_inc1 (by omega)]
    refine lv_imul hx hb zu_X12_findSoon_163 ?_
    refine lv_iload hx hb zu_X12_findSoon_164 (lv_at hl 0 rfl) ?_
    refine lv_iadd hx hb zu_X12_findSoon_166 ?_
    rw [ex, z_ix (by omega) hx63]
    refine lv_iconst (v := Int32.ofInt 1) hx hb zu_X12_findSoon_167 (by decide) ?_
    refine hw_st_may X g (by omega) (Or.inr rfl) zu_X12_findSoon_168 (fun H1 locs1 g1 => ?_)
    refine lv_iinc (lv' := [(6, .int (Int32.ofInt ((d + 1 : Nat) : Int))), (7, .int (Int32.ofInt (zmv w0 hh (cc0 : Int) (d : Int)))), (5, .int (Int32.ofInt (cc0 : Int))), (4, .int (Int32.ofInt (t : Int))), (3, .int (Int32.ofInt hr)), (2, .int (Int32.ofInt (sh : Int))), (1, .int (Int32.ofInt (b0 : Int))), (0, .ref (η.1 a))]) hx hb zu_X12_findSoon_169 hl (k := 1) rfl (z_inc1 (by omega)) (by decide) rfl (fun ls hl => ?_)
    refine lv_goto (tgt := 124) hx hb zu_X12_findSoon_172 (by decide) ?_
    refine ih (d + 1) _ H1 locs1 ls (by omega) (by omega) ?_ ?_ g1 (lv_sub hl [0, 2, 3, 4, 5, 6, 7] rfl)
    · rw [zup_slf]
      exact zMy_up hM hx63 ⟨cc0, d, hcn, hd4, hR, ex⟩
    · rw [zup_row (z_mawe g).symm]
      exact hW
theorem zge_c {x : Int} {b : zIV} {σ : List Int} {env : List zIV} (h1 : b.1 ≤ x ∧ x ≤ b.2) (h2 : zge σ env) : zge (x :: σ) (b :: env) := by
  refine ⟨by simp [h2.1], fun i q hi => ?_⟩
  cases i with
  | zero => cases hi; exact h1
  | succ i => exact h2.2 i q hi
theorem zge_n : zge [] [] := ⟨rfl, fun i q hi => by cases hi⟩
theorem zoki {Θ : Nat → Option Nat} {x : Int} (h : -2147483648 ≤ x ∧ x ≤ 2147483647) : zok Θ 0 x := h
theorem z_boc {D : va_G} {cy : Nat → ClassId} {L : List Nat} {Θ : Nat → Option Nat} {h : Nat → Nat → Int} {H : Heap} (hH : zH η zkdm D vwCl cy L Θ h H) {b : Nat} (hb : Θ b = some 10) {j : Nat} (hj : j < 6) : 0 ≤ h b j ∧ h b j ≤ 63 := by
  have h1 := zH_in hH hb zkk_boatAt (j := j) hj
  have e1 : zty zK_boatAt j = (0, 0, 63) := by unfold zty; simp [Nat.mod_one]
  rw [e1] at h1
  exact h1.2
set_option maxHeartbeats 16000000 in
/-- couldFrom, by its contract -/
theorem hw_cf {p : Program} {l : Launch} {e : Env} {R : Room} {s : State} {m : MethodId} {args : Array Value} {below : List Frame} {meth : Method} {c : Code} {Q : State → Prop} {D : va_G} {cy : Nat → ClassId} {L : List Nat} {Θ : Nat → Option Nat} {H0 : Heap} (X : hCx D vwCl cy L p s m args c cX12_findSoon 8 (tyW cy) zTW RX12) {h : Nat → Nat → Int} {a ma we bo ro b0 sh cc0 : Nat} {w0 hh : Int} {h2 : Nat → Nat → Int} {H : Heap} {locs : List Loc} {ls : Array Slot}
    (hcf : zHrun η zkdm D vwCl cy L Θ (fun q => q ∈ L) H0 8 p l e R s m args below meth c 98 zk_X12_couldFrom_0) (g : zFB η D cy L Θ h a ma we bo ro w0 hh H0 h2 H locs) (haM : (a : Int) ≤ 2147483647) (hb5 : b0 ≤ 5) (hs5 : sh ≤ 5) (hc : cc0 < 64) (hsz : ls.size = 8)
    (k : ∀ (r : Int) (h3 : Nat → Nat → Int) (H3 : Heap) (locs3 : List Loc), zFB η D cy L Θ h a ma we bo ro w0 hh H0 h3 H3 locs3 → h3 ma = h2 ma → h3 we = h2 we → (r = 0 ∨ r = 1) → W p l e R s m args below meth c H3 locs3 0 0 Q (F0 m 101 ls [.int (Int32.ofInt r)])) :
    W p l e R s m args below meth c H locs 0 0 Q (F0 m 98 ls [.int (Int32.ofInt (sh : Int)), .int (Int32.ofInt (cc0 : Int)), .int (Int32.ofInt (b0 : Int)), .ref (η.1 a)]) := by
  have g0 := g
  obtain ⟨gR, ⟨ha, hma, hwe, hbo, hro, f52, f53, f30, f54, f24, f25, hw, hhh, hsea⟩, hH, hS⟩ := g0
  have h30 := (zH_in hH ha zkm (j := 30) (by decide)).2.2
  rw [zty_boatAt, f30] at h30
  simp only at h30
  have B0 := z_boc hH hbo (j := 0) (by decide)
  have B1 := z_boc hH hbo (j := 1) (by decide)
  have B2 := z_boc hH hbo (j := 2) (by decide)
  have B3 := z_boc hH hbo (j := 3) (by decide)
  have B4 := z_boc hH hbo (j := 4) (by decide)
  have B5 := z_boc hH hbo (j := 5) (by decide)
  let σ : List Int := [0, (a : Int), (b0 : Int), (cc0 : Int), (sh : Int), h2 a 23, w0, (bo : Int), h2 bo 0, h2 bo 1, h2 bo 2, h2 bo 3, h2 bo 4, h2 bo 5]
  have e1 : zvo η σ (37, 1, 0) = .ref (η.1 a) := by
    show zdec η (35 + 2) ((a : Int) + 0) = _
    rw [Int.add_zero]
    exact z_dr 35 a
  have e2 : zvo η σ (0, 2, 0) = .int (Int32.ofInt (b0 : Int)) := by
    show zdec η 0 ((b0 : Int) + 0) = _
    rw [Int.add_zero]
    rfl
  have e3 : zvo η σ (0, 3, 0) = .int (Int32.ofInt (cc0 : Int)) := by
    show zdec η 0 ((cc0 : Int) + 0) = _
    rw [Int.add_zero]
    rfl
  have e4 : zvo η σ (0, 4, 0) = .int (Int32.ofInt (sh : Int)) := by
    show zdec η 0 ((sh : Int) + 0) = _
    rw [Int.add_zero]
    rfl
  have est : (zk_X12_couldFrom_0.2.2.1.1.map (zvo η σ)).reverse ++ [] = [.int (Int32.ofInt (sh : Int)), .int (Int32.ofInt (cc0 : Int)), .int (Int32.ofInt (b0 : Int)), .ref (η.1 a)] := by
    show (List.map (zvo η σ) [(37, 1, 0), (0, 2, 0), (0, 3, 0), (0, 4, 0)]).reverse ++ [] = _
    simp only [List.map_cons, List.map_nil, e1, e2, e3, e4]
    rfl
  rw [← est]
  have ga : zga Θ σ (37, 1, 0) := ⟨by show (1 : Nat) < 14; decide, by
    show zok Θ 37 ((a : Int) + 0)
    rw [Int.add_zero]
    exact Or.inr ⟨by omega, by rw [Int.toNat_natCast]; exact ha⟩⟩
  have gb : zga Θ σ (12, 7, 0) := ⟨by show (7 : Nat) < 14; decide, by
    show zok Θ 12 ((bo : Int) + 0)
    rw [Int.add_zero]
    exact Or.inr ⟨by omega, by rw [Int.toNat_natCast]; exact hbo⟩⟩
  have gi : ∀ (i : Nat), i < 14 → (-2147483648 ≤ σ.getD i 0 ∧ σ.getD i 0 ≤ 2147483647) → zga Θ σ (0, i, 0) := fun i hi hb => ⟨hi, by
    show zok Θ 0 (σ.getD i 0 + 0)
    rw [Int.add_zero]
    exact hb⟩
  have gv : ∀ (ad i j : Nat) (kk : Nat) (t : Nat), i < 14 → σ.getD i 0 = (ad : Int) → Θ ad = some kk → zga Θ σ (t, j, 0) → ∀ sl, h2 ad sl = σ.getD j 0 → (fun o : zOV => o.1.2 < σ.length ∧ zga Θ σ o.2.2 ∧ 0 ≤ σ.getD o.1.2 0 ∧ Θ (σ.getD o.1.2 0).toNat = some o.1.1 ∧ h2 (σ.getD o.1.2 0).toNat o.2.1 = zev σ o.2.2) ((kk, i), sl, (t, j, 0)) := by
    intro ad i j kk t hi hA hT hG sl hs
    refine ⟨hi, hG, by simp only; omega, by simp only; rw [hA, Int.toNat_natCast]; exact hT, ?_⟩
    simp only [zev]
    rw [hA, Int.toNat_natCast, Int.add_zero]
    exact hs
  refine hw_call hcf (σ := σ) (h := h2) ?_ ?_ ?_ (fun _ q => absurd q List.not_mem_nil) hH hS hsz (Nat.le_of_ble_eq_true rfl) (fun v out ρ h3 H3 locs3 ho oE ov oV oH oX oS => ?_)
  · exact zge_c ⟨by decide, by decide⟩ (zge_c ⟨by simp only; omega, haM⟩ (zge_c ⟨by simp only; omega, by simp only; omega⟩ (zge_c ⟨by simp only; omega, by simp only; omega⟩ (zge_c ⟨by simp only; omega, by simp only; omega⟩ (zge_c hsea (zge_c hw (zge_c ⟨by simp only; omega, h30⟩ (zge_c B0 (zge_c B1 (zge_c B2 (zge_c B3 (zge_c B4 (zge_c B5 zge_n)))))))))))))
  · exact List.forall_mem_cons.mpr ⟨ga, List.forall_mem_cons.mpr ⟨gi 2 (by decide) (by show _ ≤ (b0 : Int) ∧ (b0 : Int) ≤ _; omega), List.forall_mem_cons.mpr ⟨gi 3 (by decide) (by show _ ≤ (cc0 : Int) ∧ (cc0 : Int) ≤ _; omega), List.forall_mem_cons.mpr ⟨gi 4 (by decide) (by show _ ≤ (sh : Int) ∧ (sh : Int) ≤ _; omega), List.forall_mem_nil _⟩⟩⟩⟩
  · exact List.forall_mem_cons.mpr ⟨gv a 1 5 35 0 (by decide) rfl ha (gi 5 (by decide) (by show _ ≤ h2 a 23 ∧ h2 a 23 ≤ _; omega)) 23 rfl, List.forall_mem_cons.mpr ⟨gv a 1 6 35 0 (by decide) rfl ha (gi 6 (by decide) (by show _ ≤ w0 ∧ w0 ≤ _; omega)) 24 f24, List.forall_mem_cons.mpr ⟨gv a 1 7 35 12 (by decide) rfl ha gb 30 f30, List.forall_mem_cons.mpr ⟨gv bo 7 8 10 0 (by decide) rfl hbo (gi 8 (by decide) (by show _ ≤ h2 bo 0 ∧ h2 bo 0 ≤ _; omega)) 0 rfl, List.forall_mem_cons.mpr ⟨gv bo 7 9 10 0 (by decide) rfl hbo (gi 9 (by decide) (by show _ ≤ h2 bo 1 ∧ h2 bo 1 ≤ _; omega)) 1 rfl, List.forall_mem_cons.mpr ⟨gv bo 7 10 10 0 (by decide) rfl hbo (gi 10 (by decide) (by show _ ≤ h2 bo 2 ∧ h2 bo 2 ≤ _; omega)) 2 rfl, List.forall_mem_cons.mpr ⟨gv bo 7 11 10 0 (by decide) rfl hbo (gi 11 (by decide) (by show _ ≤ h2 bo 3 ∧ h2 bo 3 ≤ _; omega)) 3 rfl, List.forall_mem_cons.mpr ⟨gv bo 7 12 10 0 (by decide) rfl hbo (gi 12 (by decide) (by show _ ≤ h2 bo 4 ∧ h2 bo 4 ≤ _; omega)) 4 rfl, List.forall_mem_cons.mpr ⟨gv bo 7 13 10 0 (by decide) rfl hbo (gi 13 (by decide) (by show _ ≤ h2 bo 5 ∧ h2 bo 5 ≤ _; omega)) 5 rfl, List.forall_mem_nil _⟩⟩⟩⟩⟩⟩⟩⟩⟩
  · have hb : ∀ j, j < 6 → h3 bo j = h2 bo j := by
      have hv : zgv Θ h3 (σ ++ ρ) [((35, 1), 30, (12, 7, 0)), ((10, 7), 0, (0, 8, 0)), ((10, 7), 1, (0, 9, 0)), ((10, 7), 2, (0, 10, 0)), ((10, 7), 3, (0, 11, 0)), ((10, 7), 4, (0, 12, 0)), ((10, 7), 5, (0, 13, 0))] := by
        rcases List.mem_cons.mp ho with rfl | ho
        · exact oV
        · rcases List.mem_cons.mp ho with rfl | ho
          · exact oV
          · cases ho
      have key : ∀ j : Nat, (((10, 7), j, (0, 8 + j, 0)) : zOV) ∈ ([((35, 1), 30, (12, 7, 0)), ((10, 7), 0, (0, 8, 0)), ((10, 7), 1, (0, 9, 0)), ((10, 7), 2, (0, 10, 0)), ((10, 7), 3, (0, 11, 0)), ((10, 7), 4, (0, 12, 0)), ((10, 7), 5, (0, 13, 0))] : List zOV) → h3 bo j = (σ ++ ρ).getD (8 + j) 0 := by
        intro j hj
        have q := (hv _ hj).2.2.2.2
        have e7 : (σ ++ ρ).getD 7 0 = (bo : Int) := rfl
        simp only [zev] at q
        rw [e7, Int.toNat_natCast, Int.add_zero] at q
        exact q
      intro j hj
      rcases (show j = 0 ∨ j = 1 ∨ j = 2 ∨ j = 3 ∨ j = 4 ∨ j = 5 by omega) with rfl | rfl | rfl | rfl | rfl | rfl
      · exact key 0 (by decide)
      · exact key 1 (by decide)
      · exact key 2 (by decide)
      · exact key 3 (by decide)
      · exact key 4 (by decide)
      · exact key 5 (by decide)
    have g3 := zFB_call g (E := [(10, 0, 5)]) (by decide) (fun j => by simp [zinE]) oX hb oH oS
    have em : h3 ma = h2 ma := by
      funext j
      exact oX ma 27 j hma (by show zinE [(10, 0, 5)] 27 j j = false; simp [zinE])
    have ew : h3 we = h2 we := by
      funext j
      exact oX we 28 j hwe (by show zinE [(10, 0, 5)] 28 j j = false; simp [zinE])
    rcases List.mem_cons.mp ho with rfl | ho
    · have ev : v.toList = [.int (Int32.ofInt 1)] := ov
      rw [ev]
      exact k 1 h3 H3 locs3 g3 em ew (Or.inr rfl)
    · rcases List.mem_cons.mp ho with rfl | ho
      · have ev : v.toList = [.int (Int32.ofInt 0)] := ov
        rw [ev]
        exact k 0 h3 H3 locs3 g3 em ew (Or.inl rfl)
      · cases ho
set_option maxHeartbeats 16000000 in
/-- the cells of an hour, going forward -/
theorem zfs_c {p : Program} {l : Launch} {e : Env} {R : Room} {s : State} {m : MethodId} {args : Array Value} {below : List Frame} {meth : Method} {c : Code} {Q : State → Prop} {D : va_G} {cy : Nat → ClassId} {L : List Nat} {Θ : Nat → Option Nat} {H0 : Heap} (X : hCx D vwCl cy L p s m args c cX12_findSoon 8 (tyW cy) zTW RX12) (hKW : KW D cy s) (hf : 6 ≤ R.frames) (hlo : 139 ≤ R.locals) {h : Nat → Nat → Int} {a ma we bo ro b0 sh : Nat} {w0 hh : Int} {c0 : Int} (t : Nat) (ht : t ≤ 30) (hcf : zHrun η zkdm D vwCl cy L Θ (fun q => q ∈ L) H0 8 p l e R s m args below meth c 98 zk_X12_couldFrom_0) (haM : (a : Int) ≤ 2147483647) (hb5 : b0 ≤ 5) (hs5 : sh ≤ 5)
    (K : ∀ (hr : Int) (h2 : Nat → Nat → Int) (H : Heap) (locs : List Loc) (ls : Array Slot), zFB η D cy L Θ h a ma we bo ro w0 hh H0 h2 H locs → zMy w0 hh c0 (h2 ma) → zWl w0 hh c0 (h2 we) hr → (hr = -1 ∨ hr = (t : Int)) → lv_has ls 8 [(4, .int (Int32.ofInt (t : Int))), (3, .int (Int32.ofInt hr)), (2, .int (Int32.ofInt (sh : Int))), (1, .int (Int32.ofInt (b0 : Int))), (0, .ref (η.1 a))] → W p l e R s m args below meth c H locs 0 0 Q (F0 m 181 ls [])) :
    ∀ (f : Nat) (cc0 : Nat) (hr : Int) (h2 : Nat → Nat → Int) (H : Heap) (locs : List Loc) (ls : Array Slot), 64 - cc0 ≤ f → cc0 ≤ 64 → zMy w0 hh c0 (h2 ma) → zWl w0 hh c0 (h2 we) hr → (hr = -1 ∨ hr = (t : Int)) → zFB η D cy L Θ h a ma we bo ro w0 hh H0 h2 H locs → lv_has ls 8 [(5, .int (Int32.ofInt (cc0 : Int))), (4, .int (Int32.ofInt (t : Int))), (3, .int (Int32.ofInt hr)), (2, .int (Int32.ofInt (sh : Int))), (1, .int (Int32.ofInt (b0 : Int))), (0, .ref (η.1 a))] → W p l e R s m args below meth c H locs 0 0 Q (F0 m 63 ls []) := by
  have hx := X.1
  have hb := X.2.1
  intro f
  induction f with
  | zero =>
    intro cc0 hr h2 H locs ls hf2 hcc hM hW ht2 g hl
    have hn64 := z_n64 g.2.1.2.2.2.2.2.2.2.2.2.2.2.1 g.2.1.2.2.2.2.2.2.2.2.2.2.2.2.1
    have g0 := g
    obtain ⟨gR, ⟨ha, hma, hwe, hbo, hro, f52, f53, f30, f54, f24, f25, hw, hhh, hsea⟩, hH, hS⟩ := g0
    refine lv_iload hx hb zu_X12_findSoon_63 (lv_at hl 0 rfl) ?_
    refine lv_aload_n hx hb zu_X12_findSoon_65 rfl (lv_at hl 5 rfl) ?_
    refine hw_fwide X g zu_X12_findSoon_66 ?_
    refine lv_aload_n hx hb zu_X12_findSoon_69 rfl (lv_at hl 5 rfl) ?_
    refine hw_fhigh X g zu_X12_findSoon_70 ?_
    refine lv_imul hx hb zu_X12_findSoon_73 ?_
    rw [z_mli (by omega) (by omega)]
    refine lv_icmp_ge (tgt := 181) hx hb zu_X12_findSoon_74 (by decide) (fun _ => ?_) (fun hc => absurd ((z_le32 (by omega) (by omega)).mpr (by omega)) hc)
    exact K hr h2 H locs ls g hM hW ht2 (lv_sub hl [1, 2, 3, 4, 5] rfl)
  | succ f ih =>
    intro cc0 hr h2 H locs ls hf2 hcc hM hW ht2 g hl
    have hn64 := z_n64 g.2.1.2.2.2.2.2.2.2.2.2.2.2.1 g.2.1.2.2.2.2.2.2.2.2.2.2.2.2.1
    have g0 := g
    obtain ⟨gR, ⟨ha, hma, hwe, hbo, hro, f52, f53, f30, f54, f24, f25, hw, hhh, hsea⟩, hH, hS⟩ := g0
    refine lv_iload hx hb zu_X12_findSoon_63 (lv_at hl 0 rfl) ?_
    refine lv_aload_n hx hb zu_X12_findSoon_65 rfl (lv_at hl 5 rfl) ?_
    refine hw_fwide X g zu_X12_findSoon_66 ?_
    refine lv_aload_n hx hb zu_X12_findSoon_69 rfl (lv_at hl 5 rfl) ?_
    refine hw_fhigh X g zu_X12_findSoon_70 ?_
    refine lv_imul hx hb zu_X12_findSoon_73 ?_
    rw [z_mli (by omega) (by omega)]
    refine lv_icmp_ge (tgt := 181) hx hb zu_X12_findSoon_74 (by decide) (fun hc => ?_) (fun hc => ?_)
    · exact K hr h2 H locs ls g hM hW ht2 (lv_sub hl [1, 2, 3, 4, 5] rfl)
    have hcn : (cc0 : Int) < w0 * hh := by
      apply Int.not_le.mp
      intro q
      exact hc ((z_le32 (by omega) (by omega)).mpr q)
    -- the next cell
    have nxt : ∀ (hr : Int) (h2 : Nat → Nat → Int) (H : Heap) (locs : List Loc) (ls : Array Slot), zFB η D cy L Θ h a ma we bo ro w0 hh H0 h2 H locs → zMy w0 hh c0 (h2 ma) → zWl w0 hh c0 (h2 we) hr → (hr = -1 ∨ hr = (t : Int)) → lv_has ls 8 [(5, .int (Int32.ofInt (cc0 : Int))), (4, .int (Int32.ofInt (t : Int))), (3, .int (Int32.ofInt hr)), (2, .int (Int32.ofInt (sh : Int))), (1, .int (Int32.ofInt (b0 : Int))), (0, .ref (η.1 a))] → W p l e R s m args below meth c H locs 0 0 Q (F0 m 175 ls []) := by
      intro hr h2 H locs ls g hM hW ht2 hl
      refine lv_iinc (lv' := [(5, .int (Int32.ofInt ((cc0 + 1 : Nat) : Int))), (4, .int (Int32.ofInt (t : Int))), (3, .int (Int32.ofInt hr)), (2, .int (Int32.ofInt (sh : Int))), (1, .int (Int32.ofInt (b0 : Int))), (0, .ref (η.1 a))]) hx hb zu_X12_findSoon_175 hl (k := 0) rfl (z_inc1 (by omega)) (by decide) rfl (fun ls hl => ?_)
      refine lv_goto (tgt := 63) hx hb zu_X12_findSoon_178 (by decide) ?_
      exact ih (cc0 + 1) hr h2 H locs ls (by omega) (by omega) hM hW ht2 g hl
    refine lv_aload_n hx hb zu_X12_findSoon_77 rfl (lv_at hl 5 rfl) ?_
    refine hw_fmay X g zu_X12_findSoon_78 ?_
    refine lv_bipush (v := Int32.ofInt 64) hx hb zu_X12_findSoon_81 (by decide) ?_
    refine lv_iload hx hb zu_X12_findSoon_83 (lv_at hl 1 rfl) ?_
    refine lv_imul hx hb zu_X12_findSoon_85 ?_
    refine lv_iload hx hb zu_X12_findSoon_86 (lv_at hl 0 rfl) ?_
    refine lv_iadd hx hb zu_X12_findSoon_88 ?_
    rw [z_ix (by omega) (by omega)]
    refine hw_ld_may X g (by omega) zu_X12_findSoon_89 ?_
    refine lv_if_eq (tgt := 175) hx hb zu_X12_findSoon_90 (by decide) (fun _ => nxt hr h2 H locs ls g hM hW ht2 hl) (fun hm => ?_)
    have hm1 : h2 ma (64 * t + cc0) = 1 := by
      rcases z_bit hH (Or.inl hma) (j := 64 * t + cc0) (by omega) with q | q
      · rw [q] at hm
        exact absurd rfl hm
      · exact q
    have hR : zRch w0 hh c0 t (cc0 : Int) := hM t cc0 (by omega) (by omega) hm1
    -- the deeds
    have dd : ∀ (hr : Int) (h2 : Nat → Nat → Int) (H : Heap) (locs : List Loc) (ls : Array Slot), zFB η D cy L Θ h a ma we bo ro w0 hh H0 h2 H locs → zMy w0 hh c0 (h2 ma) → zWl w0 hh c0 (h2 we) hr → (hr = -1 ∨ hr = (t : Int)) → lv_has ls 8 [(5, .int (Int32.ofInt (cc0 : Int))), (4, .int (Int32.ofInt (t : Int))), (3, .int (Int32.ofInt hr)), (2, .int (Int32.ofInt (sh : Int))), (1, .int (Int32.ofInt (b0 : Int))), (0, .ref (η.1 a))] → W p l e R s m args below meth c H locs 0 0 Q (F0 m 121 ls []) := by
      intro hr h2 H locs ls g hM hW ht2 hl
      refine lv_iconst (v := Int32.ofInt 0) hx hb zu_X12_findSoon_121 (by decide) ?_
      refine lv_istore (lv' := [(6, .int (Int32.ofInt ((0 : Nat) : Int))), (5, .int (Int32.ofInt (cc0 : Int))), (4, .int (Int32.ofInt (t : Int))), (3, .int (Int32.ofInt hr)), (2, .int (Int32.ofInt (sh : Int))), (1, .int (Int32.ofInt (b0 : Int))), (0, .ref (η.1 a))]) hx hb zu_X12_findSoon_122 hl (by decide) rfl (fun ls hl => ?_)
      refine zfs_d X hKW hf hlo t cc0 ht (by omega) hcn hR hr (h2 we) (fun h3 H3 locs3 ls3 g3 hM3 hW3 hl3 => ?_) 5 0 h2 H locs ls (by omega) (by omega) hM rfl g hl
      exact nxt hr h3 H3 locs3 ls3 g3 hM3 (by rw [hW3]; exact hW) ht2 hl3
    refine lv_aload_n hx hb zu_X12_findSoon_93 rfl (lv_at hl 5 rfl) ?_
    refine lv_iload_n hx hb zu_X12_findSoon_94 rfl (lv_at hl 4 rfl) ?_
    refine lv_iload hx hb zu_X12_findSoon_95 (lv_at hl 0 rfl) ?_
    refine lv_iload_n hx hb zu_X12_findSoon_97 rfl (lv_at hl 3 rfl) ?_
    refine hw_cf X hcf g haM hb5 hs5 (by omega) hl.1 (fun r h3 H3 locs3 g3 em ew hr01 => ?_)
    refine lv_if_eq (tgt := 121) hx hb zu_X12_findSoon_101 (by decide) (fun _ => dd hr h3 H3 locs3 ls g3 (by rw [em]; exact hM) (by rw [ew]; exact hW) ht2 hl) (fun _ => ?_)
    refine lv_aload_n hx hb zu_X12_findSoon_104 rfl (lv_at hl 5 rfl) ?_
    refine hw_fwell X g3 zu_X12_findSoon_105 ?_
    refine lv_bipush (v := Int32.ofInt 64) hx hb zu_X12_findSoon_108 (by decide) ?_
    refine lv_iload hx hb zu_X12_findSoon_110 (lv_at hl 1 rfl) ?_
    refine lv_imul hx hb zu_X12_findSoon_112 ?_
    refine lv_iload hx hb zu_X12_findSoon_113 (lv_at hl 0 rfl) ?_
    refine lv_iadd hx hb zu_X12_findSoon_115 ?_
    rw [z_ix (by omega) (by omega)]
    refine lv_iconst (v := Int32.ofInt 1) hx hb zu_X12_findSoon_116 (by decide) ?_
    refine hw_st_well X g3 (by omega) (Or.inr rfl) zu_X12_findSoon_117 (fun H4 locs4 g4 => ?_)
    refine lv_iload hx hb zu_X12_findSoon_118 (lv_at hl 1 rfl) ?_
    refine lv_istore_n (lv' := [(3, .int (Int32.ofInt (t : Int))), (5, .int (Int32.ofInt (cc0 : Int))), (4, .int (Int32.ofInt (t : Int))), (2, .int (Int32.ofInt (sh : Int))), (1, .int (Int32.ofInt (b0 : Int))), (0, .ref (η.1 a))]) hx hb zu_X12_findSoon_120 rfl hl (by decide) rfl (fun ls hl => ?_)
    refine dd (t : Int) _ H4 locs4 ls g4 ?_ ?_ (Or.inr rfl) (lv_sub hl [1, 2, 0, 3, 4, 5] rfl)
    · rw [zup_row (z_mawe g3), em]
      exact hM
    · rw [zup_slf, ew]
      exact zWl_hit hW ht2 ht (by omega) hR
end
