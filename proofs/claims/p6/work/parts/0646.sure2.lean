variable {η : zRn}
/-! sureCouples: over all, and again -/
/-- nothing has changed but one row -/
def zdb (h h' : Nat → Nat → Int) (b : Nat) : Prop := ∀ x j, ¬ (x = b ∧ j < 9) → h' x j = h x j
set_option maxHeartbeats 8000000 in
/-- over all of them: the sum grows where something has changed -/
theorem zsc_k {p : Program} {l : Launch} {e : Env} {R : Room} {s : State} {m : MethodId} {args : Array Value} {below : List Frame} {meth : Method} {c : Code} {Q : State → Prop} {D : va_G} {cy : Nat → ClassId} {L : List Nat} {Θ : Nat → Option Nat} (X : hCx D vwCl cy L p s m args c cX12_sureCouples 5 (tyW cy) zTW RX12) (hf : 1 ≤ R.frames) (hlo : 21 ≤ R.locals) {a bh : Nat} (ha : Θ a = some 35) (hb9 : Θ bh = some 29) (hna : bh ≠ a) (h : Nat → Nat → Int) (hbh : h a 58 = (bh : Int)) (hn : 0 ≤ h a 56 ∧ h a 56 ≤ 9) {H0 : Heap}
    (K : ∀ (h2 : Nat → Nat → Int) (H : Heap) (locs : List Loc) (ls : Array Slot) (mo : Int) (k : Int32), zdb h h2 bh → zH η zkdm D vwCl cy L Θ h2 H → va_S (fun q => q ∈ L) H0 H locs → (mo = 0 ∨ mo = 1) → zS9 h bh + mo ≤ zS9 h2 bh → lv_has ls 5 [(2, .int k), (1, .int (Int32.ofInt mo)), (0, .ref (η.1 a))] → W p l e R s m args below meth c H locs 0 0 Q (F0 m 99 ls [])) :
    ∀ (f : Nat) (k mo : Int) (h2 : Nat → Nat → Int) (H : Heap) (locs : List Loc) (ls : Array Slot), h a 56 - k ≤ (f : Int) → 0 ≤ k → k ≤ h a 56 → (mo = 0 ∨ mo = 1) → zS9 h bh + mo ≤ zS9 h2 bh → zdb h h2 bh → zH η zkdm D vwCl cy L Θ h2 H → va_S (fun q => q ∈ L) H0 H locs → lv_has ls 5 [(2, .int (Int32.ofInt k)), (1, .int (Int32.ofInt mo)), (0, .ref (η.1 a))] → W p l e R s m args below meth c H locs 0 0 Q (F0 m 10 ls []) := by
  have hx := X.1
  have hb := X.2.1
  intro f
  induction f with
  | zero =>
    intro k mo h2 H locs ls hf2 hk0 hk hmo hS9 g hH hS hl
    refine lv_iload_n hx hb zu_X12_sureCouples_10 rfl (lv_at hl 0 rfl) ?_
    refine lv_aload_n hx hb zu_X12_sureCouples_11 rfl (lv_at hl 2 rfl) ?_
    refine hw_get X zfh_439 ha zkm ⟨rfl, rfl⟩ (by decide) hH zu_X12_sureCouples_12 ?_
    rw [zty_sayings, z_d0, g a 56 (fun q => hna q.1.symm)]
    refine lv_icmp_ge (tgt := 99) hx hb zu_X12_sureCouples_15 (by decide) (fun _ => ?_) (fun hc => absurd ((z_le32 (by omega) (by omega)).mpr (by omega)) hc)
    exact K h2 H locs ls mo _ g hH hS hmo hS9 hl
  | succ f ih =>
    intro k mo h2 H locs ls hf2 hk0 hk hmo hS9 g hH hS hl
    have eN : h2 a 56 = h a 56 := g a 56 (fun q => hna q.1.symm)
    have eB : h2 a 58 = (bh : Int) := by rw [g a 58 (fun q => hna q.1.symm)]; exact hbh
    refine lv_iload_n hx hb zu_X12_sureCouples_10 rfl (lv_at hl 0 rfl) ?_
    refine lv_aload_n hx hb zu_X12_sureCouples_11 rfl (lv_at hl 2 rfl) ?_
    refine hw_get X zfh_439 ha zkm ⟨rfl, rfl⟩ (by decide) hH zu_X12_sureCouples_12 ?_
    rw [zty_sayings, z_d0, eN]
    refine lv_icmp_ge (tgt := 99) hx hb zu_X12_sureCouples_15 (by decide) (fun _ => K h2 H locs ls mo _ g hH hS hmo hS9 hl) (fun hc => ?_)
    have hlt : k < h a 56 := by
      apply Int.not_le.mp
      intro q
      exact hc ((z_le32 (by omega) (by omega)).mpr q)
    have tk : (Int32.ofInt k).toInt = k := z_toi (by omega) (by omega)
    have hbd := z_bhb hH hb9 (j := k.toNat) (by omega)
    refine lv_aload_n hx hb zu_X12_sureCouples_18 rfl (lv_at hl 2 rfl) ?_
    refine hw_get X zfh_99 ha zkm ⟨rfl, rfl⟩ (by decide) hH zu_X12_sureCouples_19 ?_
    rw [zty_behind, eB]
    simp only
    rw [z_dr 29 bh]
    refine lv_iload_n hx hb zu_X12_sureCouples_22 rfl (lv_at hl 0 rfl) ?_
    refine hw_iald X hb9 zkbh ⟨rfl, rfl⟩ (by rw [tk]; exact ⟨hk0, by simp only; omega⟩) hH zu_X12_sureCouples_23 ?_
    rw [tk]
    refine lv_istore_n (lv' := [(3, .int (Int32.ofInt (h2 bh k.toNat))), (2, .int (Int32.ofInt k)), (1, .int (Int32.ofInt mo)), (0, .ref (η.1 a))]) hx hb zu_X12_sureCouples_24 rfl hl (by decide) rfl (fun ls hl => ?_)
    refine lv_iconst (v := Int32.ofInt 0) hx hb zu_X12_sureCouples_25 (by decide) ?_
    refine lv_istore (lv' := [(4, .int (Int32.ofInt 0)), (3, .int (Int32.ofInt (h2 bh k.toNat))), (2, .int (Int32.ofInt k)), (1, .int (Int32.ofInt mo)), (0, .ref (η.1 a))]) hx hb zu_X12_sureCouples_26 hl (by decide) rfl (fun ls hl => ?_)
    refine zsc_in X hf hlo ha hb9 hH eB (by rw [eN]; exact hn) (h2 bh k.toNat) (Int32.ofInt mo) (Int32.ofInt k) (fun st ls i hs1 hs2 hl => ?_) 9 0 (h2 bh k.toNat) ls (by rw [eN]; omega) (by decide) (by rw [eN]; omega) hbd.1 (Int.le_refl _) hbd.2 hl
    -- behind the inner loop
    have fin : ∀ (mo2 : Int) (ls : Array Slot), (mo2 = 0 ∨ mo2 = 1) → zS9 h bh + mo2 ≤ zS9 h2 bh - h2 bh k.toNat + st → lv_has ls 5 [(4, .int i), (3, .int (Int32.ofInt st)), (2, .int (Int32.ofInt k)), (1, .int (Int32.ofInt mo)), (0, .ref (η.1 a))] → W p l e R s m args below meth c H locs 0 0 Q (F0 m 85 ls [.int (Int32.ofInt mo2)]) := by
      intro mo2 ls hm2 hs9 hl
      have ts : (Int32.ofInt st).toInt = st := z_toi (by omega) (by omega)
      refine lv_istore_n (lv' := [(1, .int (Int32.ofInt mo2)), (4, .int i), (3, .int (Int32.ofInt st)), (2, .int (Int32.ofInt k)), (0, .ref (η.1 a))]) hx hb zu_X12_sureCouples_85 rfl hl (by decide) rfl (fun ls hl => ?_)
      refine lv_aload_n hx hb zu_X12_sureCouples_86 rfl (lv_at hl 4 rfl) ?_
      refine hw_get X zfh_99 ha zkm ⟨rfl, rfl⟩ (by decide) hH zu_X12_sureCouples_87 ?_
      rw [zty_behind, eB]
      simp only
      rw [z_dr 29 bh]
      refine lv_iload_n hx hb zu_X12_sureCouples_90 rfl (lv_at hl 3 rfl) ?_
      refine lv_iload_n hx hb zu_X12_sureCouples_91 rfl (lv_at hl 2 rfl) ?_
      have e9 : zty zKbh (Int32.ofInt k).toInt.toNat = (0, 0, 511) := by unfold zty; simp [Nat.mod_one]
      refine hw_iast X hb9 zkbh ⟨rfl, rfl⟩ (by rw [tk]; exact ⟨hk0, by simp only; omega⟩) (by rw [e9, ts]; exact ⟨⟨by omega, by omega⟩, by simp only; omega, hs2⟩) hH hS zu_X12_sureCouples_92 (fun H1 locs1 hH1 hS1 => ?_)
      rw [tk, ts] at hH1
      have en : Int32.ofInt k + 1 = Int32.ofInt (k + 1) := by rw [show (1 : Int32) = Int32.ofInt 1 from rfl, z_adi (by omega) (by omega) (by omega)]
      refine lv_iinc (v := Int32.ofInt (k + 1)) (lv' := [(2, .int (Int32.ofInt (k + 1))), (1, .int (Int32.ofInt mo2)), (4, .int i), (3, .int (Int32.ofInt st)), (0, .ref (η.1 a))]) hx hb zu_X12_sureCouples_93 hl (k := 3) rfl (by rw [← en]; rfl) (by decide) rfl (fun ls hl => ?_)
      refine lv_goto (tgt := 10) hx hb zu_X12_sureCouples_96 (by decide) ?_
      refine ih (k + 1) mo2 (zup h2 bh k.toNat st) H1 locs1 ls (by omega) (by omega) (by omega) hm2 (by rw [zS9_up (by omega)]; exact hs9) (fun b j hj => ?_) hH1 hS1 (lv_sub hl [0, 1, 4] rfl)
      rw [zup_ne (fun q => hj ⟨q.1, by omega⟩)]
      exact g b j hj
    refine lv_iload_n hx hb zu_X12_sureCouples_66 rfl (lv_at hl 3 rfl) ?_
    refine lv_if_ne (tgt := 80) hx hb zu_X12_sureCouples_67 (by decide) (fun hm => ?_) (fun hm => ?_)
    · have hm1 : mo = 1 := by
        rcases hmo with q | q
        · rw [q] at hm; exact absurd rfl hm
        · exact q
      refine lv_iconst (v := Int32.ofInt 1) hx hb zu_X12_sureCouples_80 (by decide) ?_
      refine lv_goto (tgt := 85) hx hb zu_X12_sureCouples_81 (by decide) ?_
      exact fin 1 ls (Or.inr rfl) (by omega) hl
    · have hm0 : mo = 0 := by
        rcases hmo with q | q
        · exact q
        · rw [q] at hm; exact absurd hm (by decide)
      refine lv_iload_n hx hb zu_X12_sureCouples_70 rfl (lv_at hl 1 rfl) ?_
      refine lv_aload_n hx hb zu_X12_sureCouples_71 rfl (lv_at hl 4 rfl) ?_
      refine hw_get X zfh_99 ha zkm ⟨rfl, rfl⟩ (by decide) hH zu_X12_sureCouples_72 ?_
      rw [zty_behind, eB]
      simp only
      rw [z_dr 29 bh]
      refine lv_iload_n hx hb zu_X12_sureCouples_75 rfl (lv_at hl 2 rfl) ?_
      refine hw_iald X hb9 zkbh ⟨rfl, rfl⟩ (by rw [tk]; exact ⟨hk0, by simp only; omega⟩) hH zu_X12_sureCouples_76 ?_
      rw [tk]
      refine lv_icmp_eq (tgt := 84) hx hb zu_X12_sureCouples_77 (by decide) (fun he => ?_) (fun he => ?_)
      · refine lv_iconst (v := Int32.ofInt 0) hx hb zu_X12_sureCouples_84 (by decide) ?_
        exact fin 0 ls (Or.inl rfl) (by omega) hl
      · have hne : st ≠ h2 bh k.toNat := fun q => he (by rw [q])
        refine lv_iconst (v := Int32.ofInt 1) hx hb zu_X12_sureCouples_80 (by decide) ?_
        refine lv_goto (tgt := 85) hx hb zu_X12_sureCouples_81 (by decide) ?_
        exact fin 1 ls (Or.inr rfl) (by omega) hl
theorem z_s9b {D : va_G} {cy : Nat → ClassId} {L : List Nat} {Θ : Nat → Option Nat} {h : Nat → Nat → Int} {H : Heap} (hH : zH η zkdm D vwCl cy L Θ h H) {b : Nat} (hb : Θ b = some 29) : 0 ≤ zS9 h b ∧ zS9 h b ≤ 4599 := by
  have b0 := z_bhb hH hb (j := 0) (by decide)
  have b1 := z_bhb hH hb (j := 1) (by decide)
  have b2 := z_bhb hH hb (j := 2) (by decide)
  have b3 := z_bhb hH hb (j := 3) (by decide)
  have b4 := z_bhb hH hb (j := 4) (by decide)
  have b5 := z_bhb hH hb (j := 5) (by decide)
  have b6 := z_bhb hH hb (j := 6) (by decide)
  have b7 := z_bhb hH hb (j := 7) (by decide)
  have b8 := z_bhb hH hb (j := 8) (by decide)
  unfold zS9
  omega
set_option maxHeartbeats 8000000 in
/-- as long as something grows -/
theorem zsc_w {p : Program} {l : Launch} {e : Env} {R : Room} {s : State} {m : MethodId} {args : Array Value} {below : List Frame} {meth : Method} {c : Code} {Q : State → Prop} {D : va_G} {cy : Nat → ClassId} {L : List Nat} {Θ : Nat → Option Nat} (X : hCx D vwCl cy L p s m args c cX12_sureCouples 5 (tyW cy) zTW RX12) (hf : 1 ≤ R.frames) (hlo : 21 ≤ R.locals) {a bh : Nat} (ha : Θ a = some 35) (hb9 : Θ bh = some 29) (hna : bh ≠ a) (h : Nat → Nat → Int) (hbh : h a 58 = (bh : Int)) (hn : 0 ≤ h a 56 ∧ h a 56 ≤ 9) {H0 : Heap}
    (K : ∀ (h2 : Nat → Nat → Int) (H : Heap) (locs : List Loc) (ls : Array Slot), zdb h h2 bh → zH η zkdm D vwCl cy L Θ h2 H → va_S (fun q => q ∈ L) H0 H locs → lv_has ls 5 [(0, .ref (η.1 a))] → W p l e R s m args below meth c H locs 0 0 Q (F0 m 102 ls [])) :
    ∀ (f : Nat) (mo : Int) (h2 : Nat → Nat → Int) (H : Heap) (locs : List Loc) (ls : Array Slot), 2 * (4599 - zS9 h2 bh) + mo ≤ (f : Int) → (mo = 0 ∨ mo = 1) → zdb h h2 bh → zH η zkdm D vwCl cy L Θ h2 H → va_S (fun q => q ∈ L) H0 H locs → lv_has ls 5 [(1, .int (Int32.ofInt mo)), (0, .ref (η.1 a))] → W p l e R s m args below meth c H locs 0 0 Q (F0 m 2 ls []) := by
  have hx := X.1
  have hb := X.2.1
  intro f
  induction f with
  | zero =>
    intro mo h2 H locs ls hf2 hmo g hH hS hl
    have := z_s9b hH hb9
    have hm0 : mo = 0 := by omega
    refine lv_iload_n hx hb zu_X12_sureCouples_2 rfl (lv_at hl 0 rfl) ?_
    refine lv_if_eq (tgt := 102) hx hb zu_X12_sureCouples_3 (by decide) (fun _ => K h2 H locs ls g hH hS (lv_sub hl [1] rfl)) (fun hc => absurd (by rw [hm0]; rfl) hc)
  | succ f ih =>
    intro mo h2 H locs ls hf2 hmo g hH hS hl
    have h99 := z_s9b hH hb9
    refine lv_iload_n hx hb zu_X12_sureCouples_2 rfl (lv_at hl 0 rfl) ?_
    refine lv_if_eq (tgt := 102) hx hb zu_X12_sureCouples_3 (by decide) (fun _ => K h2 H locs ls g hH hS (lv_sub hl [1] rfl)) (fun hc => ?_)
    have hm1 : mo = 1 := by
      rcases hmo with q | q
      · rw [q] at hc; exact absurd rfl hc
      · exact q
    refine lv_iconst (v := Int32.ofInt 0) hx hb zu_X12_sureCouples_6 (by decide) ?_
    refine lv_istore_n (lv' := [(1, .int (Int32.ofInt 0)), (0, .ref (η.1 a))]) hx hb zu_X12_sureCouples_7 rfl hl (by decide) rfl (fun ls hl => ?_)
    refine lv_iconst (v := Int32.ofInt 0) hx hb zu_X12_sureCouples_8 (by decide) ?_
    refine lv_istore_n (lv' := [(2, .int (Int32.ofInt 0)), (1, .int (Int32.ofInt 0)), (0, .ref (η.1 a))]) hx hb zu_X12_sureCouples_9 rfl hl (by decide) rfl (fun ls hl => ?_)
    refine zsc_k X hf hlo ha hb9 hna h2 (by rw [g a 58 (fun q => hna q.1.symm)]; exact hbh) (by rw [g a 56 (fun q => hna q.1.symm)]; exact hn) (H0 := H0) (fun h3 H3 locs3 ls3 mo3 k3 g3 hH3 hS3 hm3 hs3 hl3 => ?_) 9 0 0 h2 H locs ls (by rw [g a 56 (fun q => hna q.1.symm)]; omega) (by decide) (by rw [g a 56 (fun q => hna q.1.symm)]; omega) (Or.inl rfl) (by omega) (fun _ _ _ => rfl) hH hS hl
    refine lv_goto (tgt := 2) hx hb zu_X12_sureCouples_99 (by decide) ?_
    exact ih mo3 h3 H3 locs3 ls3 (by omega) hm3 (fun x j q => by rw [g3 x j q, g x j q]) hH3 hS3 (lv_sub hl3 [1, 2] rfl)
