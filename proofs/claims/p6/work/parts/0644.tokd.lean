variable {η : zRn}
/-! token: the digits -/
theorem z_in32 {v lo hi : Int} (h1 : -2147483648 ≤ v ∧ v ≤ 2147483647) (h2 : -2147483648 ≤ lo ∧ lo ≤ 2147483647) (h3 : -2147483648 ≤ hi ∧ hi ≤ 2147483647) : (Int32.ofInt lo ≤ Int32.ofInt v ∧ Int32.ofInt v ≤ Int32.ofInt hi) ↔ (lo ≤ v ∧ v ≤ hi) := by
  rw [z_le32 h2 h1, z_le32 h1 h3]
theorem z_adi {x y : Int} (h1 : -2147483648 ≤ x ∧ x ≤ 2147483647) (h2 : -2147483648 ≤ y ∧ y ≤ 2147483647) (h3 : -2147483648 ≤ x + y ∧ x + y ≤ 2147483647) : Int32.ofInt x + Int32.ofInt y = Int32.ofInt (x + y) := by
  apply Int32.toInt_inj.mp
  rw [z_add (by rw [z_toi h1.1 h1.2, z_toi h2.1 h2.2]; exact h3.1) (by rw [z_toi h1.1 h1.2, z_toi h2.1 h2.2]; exact h3.2), z_toi h1.1 h1.2, z_toi h2.1 h2.2, z_toi h3.1 h3.2]
theorem z_sbi {x y : Int} (h1 : -2147483648 ≤ x ∧ x ≤ 2147483647) (h2 : -2147483648 ≤ y ∧ y ≤ 2147483647) (h3 : -2147483648 ≤ x - y ∧ x - y ≤ 2147483647) : Int32.ofInt x - Int32.ofInt y = Int32.ofInt (x - y) := by
  apply Int32.toInt_inj.mp
  rw [z_sub (by rw [z_toi h1.1 h1.2, z_toi h2.1 h2.2]; exact h3.1) (by rw [z_toi h1.1 h1.2, z_toi h2.1 h2.2]; exact h3.2), z_toi h1.1 h1.2, z_toi h2.1 h2.2, z_toi h3.1 h3.2]
theorem z_m10a : ∀ k : Fin 100, (10 : Int32) * Int32.ofInt (k.val : Int) = Int32.ofInt (10 * (k.val : Int)) := by decide +kernel
theorem z_m10 {x : Int} (h1 : 0 ≤ x) (h2 : x ≤ 99) : (10 : Int32) * Int32.ofInt x = Int32.ofInt (10 * x) := by
  have := z_m10a ⟨x.toNat, by omega⟩
  simp only at this
  rw [show ((x.toNat : Nat) : Int) = x by omega] at this
  exact this
set_option maxHeartbeats 8000000 in
/-- one turn -/
theorem ztk_dig_aux {p : Program} {l : Launch} {e : Env} {R : Room} {s : State} {m : MethodId} {args : Array Value} {below : List Frame} {meth : Method} {c : Code} {Q : State → Prop} {D : va_G} {cy : Nat → ClassId} {L : List Nat} {Θ : Nat → Option Nat} {H0 : Heap} (X : hCx D vwCl cy L p s m args c cX12_token 3 (tyW cy) zTW RX12) (hKW : KW D cy s) (hf : 1 ≤ R.frames) (hlo : 22 ≤ R.locals) {a : Nat} (ha : Θ a = some 35) (h : Nat → Nat → Int) (hna : (h a 1).toNat ≠ a) (r0 : Int) (c0 : Int32)
    (K : ∀ (h' : Nat → Nat → Int) (H : Heap) (locs : List Loc) (ls : Array Slot), zdf h h' a → zH η zkdm D vwCl cy L Θ h' H → va_S (fun q => q ∈ L) H0 H locs → lv_has ls 3 [(2, .int (Int32.ofInt (h' a 9 - r0))), (1, .int c0), (0, .ref (η.1 a))] → r0 + 1 ≤ h' a 9 → h' a 14 = h a 14 → W p l e R s m args below meth c H locs 0 0 Q (F0 m 224 ls [])) (hr0 : 0 ≤ r0)
    (h' : Nat → Nat → Int) (H : Heap) (locs : List Loc) (ls : Array Slot) (g : zdf h h' a) (hH : zH η zkdm D vwCl cy L Θ h' H) (hS : va_S (fun q => q ∈ L) H0 H locs) (hl : lv_has ls 3 [(2, .int (Int32.ofInt (h' a 9 - r0))), (1, .int c0), (0, .ref (η.1 a))]) (hr : r0 ≤ h' a 9) (hz : h' a 9 = r0 → 48 ≤ zsee h' a ∧ zsee h' a ≤ 57) (hv : 0 ≤ h' a 13 ∧ (h' a 9 = r0 → h' a 13 = 0) ∧ (h' a 9 = r0 + 1 → h' a 13 ≤ 9) ∧ h' a 13 ≤ 99) (hw : h' a 14 = h a 14)
    (ih : ∀ (h2 : Nat → Nat → Int) (H2 : Heap) (locs2 : List Loc) (ls2 : Array Slot), zdf h h2 a → zH η zkdm D vwCl cy L Θ h2 H2 → va_S (fun q => q ∈ L) H0 H2 locs2 → lv_has ls2 3 [(2, .int (Int32.ofInt (h2 a 9 - r0))), (1, .int c0), (0, .ref (η.1 a))] → h2 a 9 = h' a 9 + 1 → h' a 9 < 600 → (0 ≤ h2 a 13 ∧ (h2 a 9 = r0 → h2 a 13 = 0) ∧ (h2 a 9 = r0 + 1 → h2 a 13 ≤ 9) ∧ h2 a 13 ≤ 99) → h2 a 14 = h a 14 → W p l e R s m args below meth c H2 locs2 0 0 Q (F0 m 163 ls2 [])) : W p l e R s m args below meth c H locs 0 0 Q (F0 m 163 ls []) := by
  have hx := X.1
  have hb := X.2.1
  obtain ⟨b1, b2⟩ := z_rl9 hH ha
  obtain ⟨s1, s2, s3⟩ := z_seeb hH ha
  refine lv_aload_n hx hb zu_X12_token_163 rfl (lv_at hl 2 rfl) ?_
  refine hw_see X hKW ha hl.1 hf (by omega) (Nat.le_of_ble_eq_true rfl) hH zyt_143 zu_X12_token_164 ?_
  refine lv_bipush (v := Int32.ofInt 48) hx hb zu_X12_token_167 (by decide +kernel) ?_
  refine lv_bipush (v := Int32.ofInt 57) hx hb zu_X12_token_169 (by decide +kernel) ?_
  refine hw_in X hl.1 hf hlo (Nat.le_of_ble_eq_true rfl) zyt_129 zu_X12_token_171 ?_
  by_cases hin : 48 ≤ zsee h' a ∧ zsee h' a ≤ 57
  · rw [if_pos ((z_in32 (by omega) (by omega) (by omega)).mpr hin)]
    refine lv_if_eq (tgt := 224) hx hb zu_X12_token_174 (by decide) (fun q => absurd q (by decide)) (fun _ => ?_)
    have hlt : h' a 9 < h' a 10 := by
      apply Decidable.byContradiction
      intro q
      have := s2 q
      omega
    -- what follows the new value: reached and n grow
    have fin : ∀ (v : Int) (H1 : Heap) (locs1 : List Loc), (0 ≤ v ∧ (h' a 9 = r0 → v ≤ 9) ∧ v ≤ 99) → zH η zkdm D vwCl cy L Θ (zup h' a 13 v) H1 → va_S (fun q => q ∈ L) H0 H1 locs1 → W p l e R s m args below meth c H1 locs1 0 0 Q (F0 m 208 ls []) := by
      intro v H1 locs1 hv2 hH1 hS1
      have e9 : zup h' a 13 v a 9 = h' a 9 := zup_ne (by omega)
      refine lv_aload_n hx hb zu_X12_token_208 rfl (lv_at hl 2 rfl) ?_
      refine lv_dup hx hb zu_X12_token_209 rfl ?_
      refine hw_get X zfh_137 ha zkm ⟨rfl, rfl⟩ (by decide) hH1 zu_X12_token_210 ?_
      rw [zty_reached, z_d0, e9]
      refine lv_iconst (v := Int32.ofInt 1) hx hb zu_X12_token_213 (by decide +kernel) ?_
      refine lv_iadd hx hb zu_X12_token_214 ?_
      rw [z_adi (by omega) (by omega) (by omega)]
      have ei : (.int (Int32.ofInt (h' a 9 + 1)) : Value) = zdec η (zty zKM 9).1 (h' a 9 + 1) := by rw [zty_reached, z_d0]
      rw [ei]
      refine hw_put X (x := h' a 9 + 1) zfh_137 ha zkm ⟨rfl, rfl⟩ (by decide) (by decide) (by rw [zty_reached]; exact ⟨⟨by omega, by omega⟩, by simp only; omega, by simp only; omega⟩) hH1 hS1 zu_X12_token_215 (fun H2 locs2 hH2 hS2 => ?_)
      have en : Int32.ofInt (h' a 9 - r0) + 1 = Int32.ofInt (h' a 9 + 1 - r0) := by
        rw [show (1 : Int32) = Int32.ofInt 1 from rfl, z_adi (by omega) (by omega) (by omega)]
        congr 1
        omega
      refine lv_iinc (v := Int32.ofInt (h' a 9 + 1 - r0)) (lv' := [(2, .int (Int32.ofInt (h' a 9 + 1 - r0))), (1, .int c0), (0, .ref (η.1 a))]) hx hb zu_X12_token_218 hl (k := 0) rfl (by rw [← en]; rfl) (by decide) rfl (fun ls2 hl2 => ?_)
      refine lv_goto (tgt := 163) hx hb zu_X12_token_221 (by decide) ?_
      have e92 : zup (zup h' a 13 v) a 9 (h' a 9 + 1) a 9 = h' a 9 + 1 := zup_at _ _ _ _
      have e93 : zup (zup h' a 13 v) a 9 (h' a 9 + 1) a 13 = v := by rw [zup_ne (by omega), zup_at]
      have e94 : zup (zup h' a 13 v) a 9 (h' a 9 + 1) a 14 = h' a 14 := by rw [zup_ne (by omega), zup_ne (by omega)]
      refine ih _ H2 locs2 ls2 ((g.up (Or.inr (Or.inl rfl))).up (Or.inl rfl)) hH2 hS2 (by rw [e92]; exact hl2) e92 (by omega) ?_ (by rw [e94]; exact hw)
      rw [e92, e93]
      refine ⟨hv2.1, fun q => by omega, fun q => hv2.2.1 (by omega), hv2.2.2⟩
    have hvt : ∀ v : Int, 0 ≤ v → v ≤ 99 → zok Θ (zty zKM 13).1 v ∧ (zty zKM 13).2.1 ≤ v ∧ v ≤ (zty zKM 13).2.2 := fun v h1 h2 => by
      rw [zty_value]
      exact ⟨⟨by omega, by omega⟩, h1, h2⟩
    refine lv_aload_n hx hb zu_X12_token_177 rfl (lv_at hl 2 rfl) ?_
    refine lv_iload_n hx hb zu_X12_token_178 rfl (lv_at hl 0 rfl) ?_
    refine lv_iconst (v := Int32.ofInt 2) hx hb zu_X12_token_179 (by decide +kernel) ?_
    refine lv_icmp_ge (tgt := 201) hx hb zu_X12_token_180 (by decide) (fun hc => ?_) (fun hc => ?_)
    · have hc2 := (z_le32 (by omega) (by omega)).mp hc
      refine lv_aload_n hx hb zu_X12_token_201 rfl (lv_at hl 2 rfl) ?_
      refine hw_get X zfh_157 ha zkm ⟨rfl, rfl⟩ (by decide) hH zu_X12_token_202 ?_
      refine hw_put X (x := h' a 13) zfh_157 ha zkm ⟨rfl, rfl⟩ (by decide) (by decide) (hvt _ hv.1 hv.2.2.2) hH hS zu_X12_token_205 (fun H1 locs1 hH1 hS1 => ?_)
      exact fin _ H1 locs1 ⟨hv.1, fun q => by omega, hv.2.2.2⟩ hH1 hS1
    · have hc2 : h' a 9 - r0 < 2 := by
        apply Int.not_le.mp
        intro q
        exact hc ((z_le32 (by omega) (by omega)).mpr q)
      have hv9 : h' a 13 ≤ 9 := by
        rcases (show h' a 9 = r0 ∨ h' a 9 = r0 + 1 by omega) with q | q
        · have := hv.2.1 q; omega
        · exact hv.2.2.1 q
      refine lv_bipush (v := 10) hx hb zu_X12_token_183 (by decide +kernel) ?_
      refine lv_aload_n hx hb zu_X12_token_185 rfl (lv_at hl 2 rfl) ?_
      refine hw_get X zfh_157 ha zkm ⟨rfl, rfl⟩ (by decide) hH zu_X12_token_186 ?_
      rw [zty_value, z_d0]
      refine lv_imul hx hb zu_X12_token_189 ?_
      rw [z_m10 hv.1 hv.2.2.2]
      refine lv_aload_n hx hb zu_X12_token_190 rfl (lv_at hl 2 rfl) ?_
      refine hw_see X hKW ha hl.1 hf (by omega) (Nat.le_of_ble_eq_true rfl) hH zyt_143 zu_X12_token_191 ?_
      refine lv_iadd hx hb zu_X12_token_194 ?_
      rw [z_adi (by omega) (by omega) (by omega)]
      refine lv_bipush (v := Int32.ofInt 48) hx hb zu_X12_token_195 (by decide +kernel) ?_
      refine lv_isub hx hb zu_X12_token_197 ?_
      rw [z_sbi (by omega) (by omega) (by omega)]
      refine lv_goto (tgt := 205) hx hb zu_X12_token_198 (by decide) ?_
      have ei : (.int (Int32.ofInt (10 * h' a 13 + zsee h' a - 48)) : Value) = zdec η (zty zKM 13).1 (10 * h' a 13 + zsee h' a - 48) := by rw [zty_value, z_d0]
      rw [ei]
      refine hw_put X (x := 10 * h' a 13 + zsee h' a - 48) zfh_157 ha zkm ⟨rfl, rfl⟩ (by decide) (by decide) (hvt _ (by omega) (by omega)) hH hS zu_X12_token_205 (fun H1 locs1 hH1 hS1 => ?_)
      exact fin _ H1 locs1 ⟨by omega, fun q => by have := hv.2.1 q; omega, by omega⟩ hH1 hS1
  · rw [if_neg (fun q => hin ((z_in32 (by omega) (by omega) (by omega)).mp q))]
    refine lv_if_eq (tgt := 224) hx hb zu_X12_token_174 (by decide) (fun _ => ?_) (fun q => absurd rfl q)
    refine K h' H locs ls g hH hS hl ?_ hw
    apply Decidable.byContradiction
    intro q
    exact hin (hz (by omega))
set_option maxHeartbeats 4000000 in
theorem ztk_dig {p : Program} {l : Launch} {e : Env} {R : Room} {s : State} {m : MethodId} {args : Array Value} {below : List Frame} {meth : Method} {c : Code} {Q : State → Prop} {D : va_G} {cy : Nat → ClassId} {L : List Nat} {Θ : Nat → Option Nat} {H0 : Heap} (X : hCx D vwCl cy L p s m args c cX12_token 3 (tyW cy) zTW RX12) (hKW : KW D cy s) (hf : 1 ≤ R.frames) (hlo : 22 ≤ R.locals) {a : Nat} (ha : Θ a = some 35) (h : Nat → Nat → Int) (hna : (h a 1).toNat ≠ a) (r0 : Int) (c0 : Int32)
    (K : ∀ (h' : Nat → Nat → Int) (H : Heap) (locs : List Loc) (ls : Array Slot), zdf h h' a → zH η zkdm D vwCl cy L Θ h' H → va_S (fun q => q ∈ L) H0 H locs → lv_has ls 3 [(2, .int (Int32.ofInt (h' a 9 - r0))), (1, .int c0), (0, .ref (η.1 a))] → r0 + 1 ≤ h' a 9 → h' a 14 = h a 14 → W p l e R s m args below meth c H locs 0 0 Q (F0 m 224 ls [])) (hr0 : 0 ≤ r0) :
    ∀ (k : Nat) (h' : Nat → Nat → Int) (H : Heap) (locs : List Loc) (ls : Array Slot), 600 - h' a 9 ≤ (k : Int) → ∀ (g : zdf h h' a) (hH : zH η zkdm D vwCl cy L Θ h' H) (hS : va_S (fun q => q ∈ L) H0 H locs) (hl : lv_has ls 3 [(2, .int (Int32.ofInt (h' a 9 - r0))), (1, .int c0), (0, .ref (η.1 a))]) (hr : r0 ≤ h' a 9) (hz : h' a 9 = r0 → 48 ≤ zsee h' a ∧ zsee h' a ≤ 57) (hv : 0 ≤ h' a 13 ∧ (h' a 9 = r0 → h' a 13 = 0) ∧ (h' a 9 = r0 + 1 → h' a 13 ≤ 9) ∧ h' a 13 ≤ 99) (hw : h' a 14 = h a 14), W p l e R s m args below meth c H locs 0 0 Q (F0 m 163 ls []) := by
  intro k
  induction k with
  | zero =>
    intro h' H locs ls hk g hH hS hl hr hz hv hw
    exact ztk_dig_aux X hKW hf hlo ha h hna r0 c0 K hr0 h' H locs ls g hH hS hl hr hz hv hw (fun h2 H2 locs2 ls2 g2 hH2 hS2 hl2 e2 lt2 hv2 hw2 => by omega)
  | succ k ih =>
    intro h' H locs ls hk g hH hS hl hr hz hv hw
    exact ztk_dig_aux X hKW hf hlo ha h hna r0 c0 K hr0 h' H locs ls g hH hS hl hr hz hv hw (fun h2 H2 locs2 ls2 g2 hH2 hS2 hl2 e2 lt2 hv2 hw2 => ih h2 H2 locs2 ls2 (by omega) g2 hH2 hS2 hl2 (by omega) (by omega) hv2 hw2)
