variable {η : zRn}
/-! token: from its first byte on -/
theorem zu_X12_token_39 : decode cX12_token 39 = .ok (.aload_n 0, 1) := by decide +kernel
theorem zu_X12_token_40 : decode cX12_token 40 = .ok (.invokevirtual 143, 3) := by decide +kernel
theorem zu_X12_token_43 : decode cX12_token 43 = .ok (.istore_n 1, 1) := by decide +kernel
theorem zu_X12_token_44 : decode cX12_token 44 = .ok (.aload_n 0, 1) := by decide +kernel
theorem zu_X12_token_45 : decode cX12_token 45 = .ok (.lconst 0, 1) := by decide +kernel
theorem zu_X12_token_46 : decode cX12_token 46 = .ok (.putfield 150, 3) := by decide +kernel
theorem zu_X12_token_49 : decode cX12_token 49 = .ok (.iconst 0, 1) := by decide +kernel
theorem zu_X12_token_50 : decode cX12_token 50 = .ok (.istore_n 2, 1) := by decide +kernel
theorem zu_X12_token_51 : decode cX12_token 51 = .ok (.iload_n 1, 1) := by decide +kernel
theorem zu_X12_token_52 : decode cX12_token 52 = .ok (.ifCond .ge 11, 3) := by decide +kernel
theorem zu_X12_token_55 : decode cX12_token 55 = .ok (.aload_n 0, 1) := by decide +kernel
theorem zu_X12_token_56 : decode cX12_token 56 = .ok (.iconst 0, 1) := by decide +kernel
theorem zu_X12_token_57 : decode cX12_token 57 = .ok (.putfield 154, 3) := by decide +kernel
theorem zu_X12_token_60 : decode cX12_token 60 = .ok (.goto 206, 3) := by decide +kernel
theorem zu_X12_token_63 : decode cX12_token 63 = .ok (.iload_n 1, 1) := by decide +kernel
theorem zu_X12_token_64 : decode cX12_token 64 = .ok (.bipush 97, 2) := by decide +kernel
theorem zu_X12_token_66 : decode cX12_token 66 = .ok (.bipush 122, 2) := by decide +kernel
theorem zu_X12_token_68 : decode cX12_token 68 = .ok (.invokestatic 129, 3) := by decide +kernel
theorem zu_X12_token_71 : decode cX12_token 71 = .ok (.ifCond .eq 76, 3) := by decide +kernel
theorem zu_X12_token_74 : decode cX12_token 74 = .ok (.aload_n 0, 1) := by decide +kernel
theorem zu_X12_token_75 : decode cX12_token 75 = .ok (.invokevirtual 143, 3) := by decide +kernel
theorem zu_X12_token_78 : decode cX12_token 78 = .ok (.bipush 97, 2) := by decide +kernel
theorem zu_X12_token_80 : decode cX12_token 80 = .ok (.bipush 122, 2) := by decide +kernel
theorem zu_X12_token_82 : decode cX12_token 82 = .ok (.invokestatic 129, 3) := by decide +kernel
theorem zu_X12_token_85 : decode cX12_token 85 = .ok (.ifCond .eq 36, 3) := by decide +kernel
theorem zu_X12_token_88 : decode cX12_token 88 = .ok (.aload_n 0, 1) := by decide +kernel
theorem zu_X12_token_89 : decode cX12_token 89 = .ok (.aload_n 0, 1) := by decide +kernel
theorem zu_X12_token_90 : decode cX12_token 90 = .ok (.getfield 150, 3) := by decide +kernel
theorem zu_X12_token_93 : decode cX12_token 93 = .ok (.bipush 8, 2) := by decide +kernel
theorem zu_X12_token_95 : decode cX12_token 95 = .ok (.lshl, 1) := by decide +kernel
theorem zu_X12_token_96 : decode cX12_token 96 = .ok (.aload_n 0, 1) := by decide +kernel
theorem zu_X12_token_97 : decode cX12_token 97 = .ok (.invokevirtual 143, 3) := by decide +kernel
theorem zu_X12_token_100 : decode cX12_token 100 = .ok (.i2l, 1) := by decide +kernel
theorem zu_X12_token_101 : decode cX12_token 101 = .ok (.lor, 1) := by decide +kernel
theorem zu_X12_token_102 : decode cX12_token 102 = .ok (.putfield 150, 3) := by decide +kernel
theorem zu_X12_token_105 : decode cX12_token 105 = .ok (.aload_n 0, 1) := by decide +kernel
theorem zu_X12_token_106 : decode cX12_token 106 = .ok (.dup, 1) := by decide +kernel
theorem zu_X12_token_107 : decode cX12_token 107 = .ok (.getfield 137, 3) := by decide +kernel
theorem zu_X12_token_110 : decode cX12_token 110 = .ok (.iconst 1, 1) := by decide +kernel
theorem zu_X12_token_111 : decode cX12_token 111 = .ok (.iadd, 1) := by decide +kernel
theorem zu_X12_token_112 : decode cX12_token 112 = .ok (.putfield 137, 3) := by decide +kernel
theorem zu_X12_token_115 : decode cX12_token 115 = .ok (.iinc 2 1, 3) := by decide +kernel
theorem zu_X12_token_118 : decode cX12_token 118 = .ok (.goto (-44), 3) := by decide +kernel
theorem zu_X12_token_121 : decode cX12_token 121 = .ok (.aload_n 0, 1) := by decide +kernel
theorem zu_X12_token_122 : decode cX12_token 122 = .ok (.iload_n 2, 1) := by decide +kernel
theorem zu_X12_token_123 : decode cX12_token 123 = .ok (.bipush 8, 2) := by decide +kernel
theorem zu_X12_token_125 : decode cX12_token 125 = .ok (.if_icmp .le 7, 3) := by decide +kernel
theorem zu_X12_token_128 : decode cX12_token 128 = .ok (.lconst 0, 1) := by decide +kernel
theorem zu_X12_token_129 : decode cX12_token 129 = .ok (.goto 7, 3) := by decide +kernel
theorem zu_X12_token_132 : decode cX12_token 132 = .ok (.aload_n 0, 1) := by decide +kernel
theorem zu_X12_token_133 : decode cX12_token 133 = .ok (.getfield 150, 3) := by decide +kernel
theorem zu_X12_token_136 : decode cX12_token 136 = .ok (.putfield 150, 3) := by decide +kernel
theorem zu_X12_token_139 : decode cX12_token 139 = .ok (.aload_n 0, 1) := by decide +kernel
theorem zu_X12_token_140 : decode cX12_token 140 = .ok (.iconst 2, 1) := by decide +kernel
theorem zu_X12_token_141 : decode cX12_token 141 = .ok (.putfield 154, 3) := by decide +kernel
theorem zu_X12_token_144 : decode cX12_token 144 = .ok (.goto 122, 3) := by decide +kernel
theorem zu_X12_token_147 : decode cX12_token 147 = .ok (.iload_n 1, 1) := by decide +kernel
theorem zu_X12_token_148 : decode cX12_token 148 = .ok (.bipush 48, 2) := by decide +kernel
theorem zu_X12_token_150 : decode cX12_token 150 = .ok (.bipush 57, 2) := by decide +kernel
theorem zu_X12_token_152 : decode cX12_token 152 = .ok (.invokestatic 129, 3) := by decide +kernel
theorem zu_X12_token_155 : decode cX12_token 155 = .ok (.ifCond .eq 86, 3) := by decide +kernel
theorem zu_X12_token_158 : decode cX12_token 158 = .ok (.aload_n 0, 1) := by decide +kernel
theorem zu_X12_token_159 : decode cX12_token 159 = .ok (.iconst 0, 1) := by decide +kernel
theorem zu_X12_token_160 : decode cX12_token 160 = .ok (.putfield 157, 3) := by decide +kernel
theorem zu_X12_token_163 : decode cX12_token 163 = .ok (.aload_n 0, 1) := by decide +kernel
theorem zu_X12_token_164 : decode cX12_token 164 = .ok (.invokevirtual 143, 3) := by decide +kernel
theorem zu_X12_token_167 : decode cX12_token 167 = .ok (.bipush 48, 2) := by decide +kernel
theorem zu_X12_token_169 : decode cX12_token 169 = .ok (.bipush 57, 2) := by decide +kernel
theorem zu_X12_token_171 : decode cX12_token 171 = .ok (.invokestatic 129, 3) := by decide +kernel
theorem zu_X12_token_174 : decode cX12_token 174 = .ok (.ifCond .eq 50, 3) := by decide +kernel
theorem zu_X12_token_177 : decode cX12_token 177 = .ok (.aload_n 0, 1) := by decide +kernel
theorem zu_X12_token_178 : decode cX12_token 178 = .ok (.iload_n 2, 1) := by decide +kernel
theorem zu_X12_token_179 : decode cX12_token 179 = .ok (.iconst 2, 1) := by decide +kernel
theorem zu_X12_token_180 : decode cX12_token 180 = .ok (.if_icmp .ge 21, 3) := by decide +kernel
theorem zu_X12_token_183 : decode cX12_token 183 = .ok (.bipush 10, 2) := by decide +kernel
theorem zu_X12_token_185 : decode cX12_token 185 = .ok (.aload_n 0, 1) := by decide +kernel
theorem zu_X12_token_186 : decode cX12_token 186 = .ok (.getfield 157, 3) := by decide +kernel
theorem zu_X12_token_189 : decode cX12_token 189 = .ok (.imul, 1) := by decide +kernel
theorem zu_X12_token_190 : decode cX12_token 190 = .ok (.aload_n 0, 1) := by decide +kernel
theorem zu_X12_token_191 : decode cX12_token 191 = .ok (.invokevirtual 143, 3) := by decide +kernel
theorem zu_X12_token_194 : decode cX12_token 194 = .ok (.iadd, 1) := by decide +kernel
theorem zu_X12_token_195 : decode cX12_token 195 = .ok (.bipush 48, 2) := by decide +kernel
theorem zu_X12_token_197 : decode cX12_token 197 = .ok (.isub, 1) := by decide +kernel
theorem zu_X12_token_198 : decode cX12_token 198 = .ok (.goto 7, 3) := by decide +kernel
theorem zu_X12_token_201 : decode cX12_token 201 = .ok (.aload_n 0, 1) := by decide +kernel
theorem zu_X12_token_202 : decode cX12_token 202 = .ok (.getfield 157, 3) := by decide +kernel
theorem zu_X12_token_205 : decode cX12_token 205 = .ok (.putfield 157, 3) := by decide +kernel
theorem zu_X12_token_208 : decode cX12_token 208 = .ok (.aload_n 0, 1) := by decide +kernel
theorem zu_X12_token_209 : decode cX12_token 209 = .ok (.dup, 1) := by decide +kernel
theorem zu_X12_token_210 : decode cX12_token 210 = .ok (.getfield 137, 3) := by decide +kernel
theorem zu_X12_token_213 : decode cX12_token 213 = .ok (.iconst 1, 1) := by decide +kernel
theorem zu_X12_token_214 : decode cX12_token 214 = .ok (.iadd, 1) := by decide +kernel
theorem zu_X12_token_215 : decode cX12_token 215 = .ok (.putfield 137, 3) := by decide +kernel
theorem zu_X12_token_218 : decode cX12_token 218 = .ok (.iinc 2 1, 3) := by decide +kernel
theorem zu_X12_token_221 : decode cX12_token 221 = .ok (.goto (-58), 3) := by decide +kernel
theorem zu_X12_token_224 : decode cX12_token 224 = .ok (.aload_n 0, 1) := by decide +kernel
theorem zyt_143 : Cond.methodLink RX12 143 yX12_see ∈ zTW := zTin 1524 (by decide +kernel) rfl
theorem zyt_129 : Cond.methodLink RX12 129 yX12_in ∈ zTW := zTin 1505 (by decide +kernel) rfl
section HWS
variable {D : va_G} {cy : Nat → ClassId} {L : List Nat} {Θ : Nat → Option Nat} {h : Nat → Nat → Int} {H H0 : Heap} {locs : List Loc}
variable {p : Program} {l : Launch} {e : Env} {R : Room} {s : State} {m : MethodId} {args : Array Value} {below : List Frame} {meth : Method} {c : Code} {Q : State → Prop}
variable {cc : ByteArray} {pc nL : Nat} {ls : Array Slot} {rest : List Value}
theorem hw_see (X : hCx D vwCl cy L p s m args c cc nL (tyW cy) zTW RX12) (hKW : KW D cy s) {a : Nat} (ha : Θ a = some 35) (hsz : ls.size = nL) (hf : 1 ≤ R.frames) (hlo : 20 ≤ R.locals) (hrest : (rest.map (fun v => v.category)).sum ≤ 8) (hH : zH η zkdm D vwCl cy L Θ h H) {idx : Nat} (hlk : Cond.methodLink RX12 idx yX12_see ∈ zTW) (hdg : decode cc pc = .ok (.invokevirtual idx, 3))
    (w : W p l e R s m args below meth c H locs 0 0 Q (F0 m (pc + 3) ls (.int (Int32.ofInt (zsee h a)) :: rest))) : W p l e R s m args below meth c H locs 0 0 Q (F0 m pc ls (.ref (η.1 a) :: rest)) := by
  obtain ⟨hexec, hb, hml, hts, hown, hKa, hT, hnd⟩ := X
  obtain ⟨q0, hq⟩ := zH_get hH ha zkm (by decide)
  rw [zE_o rfl] at hq
  have hrec := va_recv hKa hH.1 (show vwCl[12]? = some (RX12, TX12, 64) from rfl) hq
  refine pc_i (va_runV (C := RX12) (n := 0) (As := []) (rest := rest) (bytes := cX12_see) (maxL := 1) (ret := some .int) ⟨hexec, hb, hml, hown, hts⟩ (zS_see l η D cy L Θ h a ha hnd) ⟨callB_of _ hts (z_good0 zwh_X12_see.1.2.1) rfl rfl rfl (hts _ zwh_X12_see.1.1) (hts _ hlk) ⟨zwh_X12_see.1.2.2.1.1, zwh_X12_see.1.2.2.1.2, zwh_X12_see.1.2.2.2⟩ ⟨hf, hlo⟩, hts _ zwh_X12_see.2.1, hts _ zwh_X12_see.2.2⟩ ⟨zseeB, hrec, fun U hU hW => ⟨rfl, by rw [hU]; exact hH, hKW.warm hW⟩⟩ rfl rfl hsz rfl (by simpa using hrest) hdg ⟨Nat.zero_le _, Nat.zero_le _⟩) (fun r hr => ?_)
  rw [hr]
  exact w
theorem hw_in (X : hCx D vwCl cy L p s m args c cc nL (tyW cy) zTW RX12) (hsz : ls.size = nL) (hf : 1 ≤ R.frames) (hlo : 22 ≤ R.locals) (hrest : (rest.map (fun v => v.category)).sum ≤ 8) {idx : Nat} {v lo hi : Int32} (hlk : Cond.methodLink RX12 idx yX12_in ∈ zTW) (hdg : decode cc pc = .ok (.invokestatic idx, 3))
    (w : W p l e R s m args below meth c H locs 0 0 Q (F0 m (pc + 3) ls (.int (if lo ≤ v ∧ v ≤ hi then 1 else 0) :: rest))) : W p l e R s m args below meth c H locs 0 0 Q (F0 m pc ls (.int hi :: .int lo :: .int v :: rest)) := by
  obtain ⟨hexec, hb, hml, hts, hown, hKa, hT, hnd⟩ := X
  refine pc_i (va_runS (n := 3) (As := [.int v, .int lo, .int hi]) (rest := rest) (bytes := cX12_in) (maxL := 3) (ret := some .boolean) ⟨hexec, hb, hml, hown, hts⟩ (zS_in l v lo hi) ⟨callB_of _ hts (z_good0 zwh_X12_in.1.2.1) rfl rfl rfl (hts _ zwh_X12_in.1.1) (hts _ hlk) ⟨zwh_X12_in.1.2.2.1.1, zwh_X12_in.1.2.2.1.2, zwh_X12_in.1.2.2.2⟩ ⟨hf, hlo⟩, hts _ zwh_X12_in.2⟩ ⟨zinB, fun U hU hW => ⟨rfl, trivial⟩⟩ rfl rfl hsz rfl (by simpa using hrest) hdg ⟨Nat.zero_le _, Nat.zero_le _⟩) (fun r hr => ?_)
  rw [hr]
  exact w
/-- nothing has changed but reached, value, word of the reference -/
def zdf (h h' : Nat → Nat → Int) (a : Nat) : Prop := ∀ b j, ¬ (b = a ∧ (j = 9 ∨ j = 13 ∨ j = 14)) → h' b j = h b j
theorem zdf.up {h h' : Nat → Nat → Int} {a k : Nat} {x : Int} (g : zdf h h' a) (hk : k = 9 ∨ k = 13 ∨ k = 14) : zdf h (zup h' a k x) a := by
  intro b j hj
  rw [zup_ne]
  · exact g b j hj
  · rintro ⟨rfl, rfl⟩
    exact hj ⟨rfl, hk⟩
theorem zsee_df {h h' : Nat → Nat → Int} {a : Nat} (g : zdf h h' a) (hn : (h a 1).toNat ≠ a) (h9 : h' a 9 = h a 9) : zsee h' a = zsee h a := by
  unfold zsee
  rw [g a 1 (by omega), g a 10 (by omega), h9, g (h a 1).toNat _ (by rintro ⟨q, -⟩; exact hn q)]
theorem z_apart (hH : zH η zkdm D vwCl cy L Θ h H) {a : Nat} (ha : Θ a = some 35) : (h a 1).toNat ≠ a := by
  intro q
  have := (z_tp hH ha).2
  rw [q, ha] at this
  cases this
end HWS
set_option maxHeartbeats 4000000 in
/-- one turn -/
theorem ztk_let_aux {p : Program} {l : Launch} {e : Env} {R : Room} {s : State} {m : MethodId} {args : Array Value} {below : List Frame} {meth : Method} {c : Code} {Q : State → Prop} {D : va_G} {cy : Nat → ClassId} {L : List Nat} {Θ : Nat → Option Nat} {H0 : Heap} (X : hCx D vwCl cy L p s m args c cX12_token 3 (tyW cy) zTW RX12) (hKW : KW D cy s) (hf : 1 ≤ R.frames) (hlo : 22 ≤ R.locals) {a : Nat} (ha : Θ a = some 35) (h : Nat → Nat → Int) (hna : (h a 1).toNat ≠ a) (r0 : Int) (c0 : Int32)
    (K : ∀ (h' : Nat → Nat → Int) (H : Heap) (locs : List Loc) (ls : Array Slot), zdf h h' a → zH η zkdm D vwCl cy L Θ h' H → va_S (fun q => q ∈ L) H0 H locs → lv_has ls 3 [(2, .int (Int32.ofInt (h' a 9 - r0))), (1, .int c0), (0, .ref (η.1 a))] → r0 + 1 ≤ h' a 9 → W p l e R s m args below meth c H locs 0 0 Q (F0 m 121 ls [])) (hr0 : 0 ≤ r0)
    (h' : Nat → Nat → Int) (H : Heap) (locs : List Loc) (ls : Array Slot) (g : zdf h h' a) (hH : zH η zkdm D vwCl cy L Θ h' H) (hS : va_S (fun q => q ∈ L) H0 H locs) (hl : lv_has ls 3 [(2, .int (Int32.ofInt (h' a 9 - r0))), (1, .int c0), (0, .ref (η.1 a))]) (hr : r0 ≤ h' a 9) (hz : h' a 9 = r0 → 97 ≤ zsee h' a ∧ zsee h' a ≤ 122)
    (ih : ∀ (h2 : Nat → Nat → Int) (H2 : Heap) (locs2 : List Loc) (ls2 : Array Slot), zdf h h2 a → zH η zkdm D vwCl cy L Θ h2 H2 → va_S (fun q => q ∈ L) H0 H2 locs2 → lv_has ls2 3 [(2, .int (Int32.ofInt (h2 a 9 - r0))), (1, .int c0), (0, .ref (η.1 a))] → h2 a 9 = h' a 9 + 1 → h' a 9 < 600 → W p l e R s m args below meth c H2 locs2 0 0 Q (F0 m 74 ls2 [])) : W p l e R s m args below meth c H locs 0 0 Q (F0 m 74 ls []) := by
  have hx := X.1
  have hb := X.2.1
  obtain ⟨b1, b2⟩ := z_rl9 hH ha
  obtain ⟨s1, s2, s3⟩ := z_seeb hH ha
  refine lv_aload_n hx hb zu_X12_token_74 rfl (lv_at hl 2 rfl) ?_
  refine hw_see X hKW ha hl.1 hf (by omega) (Nat.le_of_ble_eq_true rfl) hH zyt_143 zu_X12_token_75 ?_
  refine lv_bipush (v := 97) hx hb zu_X12_token_78 (by decide +kernel) ?_
  refine lv_bipush (v := 122) hx hb zu_X12_token_80 (by decide +kernel) ?_
  refine hw_in X hl.1 hf hlo (Nat.le_of_ble_eq_true rfl) zyt_129 zu_X12_token_82 ?_
  have e97 : (97 : Int32) = Int32.ofInt 97 := rfl
  have e122 : (122 : Int32) = Int32.ofInt 122 := rfl
  by_cases hin : 97 ≤ zsee h' a ∧ zsee h' a ≤ 122
  · rw [if_pos ⟨by rw [e97]; exact (z_le32 (by omega) (by omega)).mpr hin.1, by rw [e122]; exact (z_le32 (by omega) (by omega)).mpr hin.2⟩]
    refine lv_if_eq (tgt := 121) hx hb zu_X12_token_85 (by decide) (fun q => absurd q (by decide)) (fun _ => ?_)
    have hlt : h' a 9 < h' a 10 := by
      apply Decidable.byContradiction
      intro q
      have := s2 q
      omega
    refine lv_aload_n hx hb zu_X12_token_88 rfl (lv_at hl 2 rfl) ?_
    refine lv_aload_n hx hb zu_X12_token_89 rfl (lv_at hl 2 rfl) ?_
    refine hw_get X zfh_150 ha zkm ⟨rfl, rfl⟩ (by decide) hH zu_X12_token_90 ?_
    rw [zty_word, z_d1]
    refine lv_bipush (v := 8) hx hb zu_X12_token_93 (by decide +kernel) ?_
    refine lv_lshl hx hb zu_X12_token_95 rfl ?_
    refine lv_aload_n hx hb zu_X12_token_96 rfl (lv_at hl 2 rfl) ?_
    refine hw_see X hKW ha hl.1 hf (by omega) (Nat.le_of_ble_eq_true rfl) hH zyt_143 zu_X12_token_97 ?_
    refine lv_i2l hx hb zu_X12_token_100 rfl ?_
    refine lv_lor hx hb zu_X12_token_101 ?_
    refine lv_topl (fun y _ => ?_)
    have ey : (.long y : Value) = zdec η (zty zKM 14).1 y.toInt := by rw [zty_word, z_d1, z_ofi64]
    rw [ey]
    refine hw_put X (x := y.toInt) zfh_150 ha zkm ⟨rfl, rfl⟩ (by decide) (by decide) (by rw [zty_word]; exact ⟨⟨z_lo64 y, z_hi64 y⟩, z_lo64 y, z_hi64 y⟩) hH hS zu_X12_token_102 (fun H1 locs1 hH1 hS1 => ?_)
    have e9 : zup h' a 14 y.toInt a 9 = h' a 9 := zup_ne (by omega)
    refine lv_aload_n hx hb zu_X12_token_105 rfl (lv_at hl 2 rfl) ?_
    refine lv_dup hx hb zu_X12_token_106 rfl ?_
    refine hw_get X zfh_137 ha zkm ⟨rfl, rfl⟩ (by decide) hH1 zu_X12_token_107 ?_
    rw [zty_reached, z_d0, e9]
    refine lv_iconst (v := 1) hx hb zu_X12_token_110 (by decide +kernel) ?_
    refine lv_iadd hx hb zu_X12_token_111 ?_
    have ei : (.int (Int32.ofInt (h' a 9) + 1) : Value) = zdec η (zty zKM 9).1 (h' a 9 + 1) := by
      rw [zty_reached, z_d0]
      congr 1
      apply Int32.toInt_inj.mp
      have e1 : (1 : Int32).toInt = 1 := rfl
      rw [z_add (by rw [z_toi (by omega) (by omega), e1]; omega) (by rw [z_toi (by omega) (by omega), e1]; omega), z_toi (by omega) (by omega), z_toi (by omega) (by omega), e1]
    rw [ei]
    refine hw_put X (x := h' a 9 + 1) zfh_137 ha zkm ⟨rfl, rfl⟩ (by decide) (by decide) (by rw [zty_reached]; exact ⟨⟨by omega, by omega⟩, by simp only; omega, by simp only; omega⟩) hH1 hS1 zu_X12_token_112 (fun H2 locs2 hH2 hS2 => ?_)
    obtain ⟨y2, ey2⟩ : ∃ y2 : Int32, y2 = Int32.ofInt (h' a 9 + 1 - r0) := ⟨_, rfl⟩
    have en : Int32.ofInt (h' a 9 - r0) + 1 = y2 := by
      rw [ey2]
      apply Int32.toInt_inj.mp
      have e1 : (1 : Int32).toInt = 1 := rfl
      rw [z_add (by rw [z_toi (by omega) (by omega), e1]; omega) (by rw [z_toi (by omega) (by omega), e1]; omega), z_toi (by omega) (by omega), z_toi (by omega) (by omega), e1]
      omega
    refine lv_iinc (v := y2) (lv' := [(2, .int y2), (1, .int c0), (0, .ref (η.1 a))]) hx hb zu_X12_token_115 hl (k := 0) rfl (by rw [← en]; rfl) (by decide) rfl (fun ls2 hl2 => ?_)
    refine lv_goto (tgt := 74) hx hb zu_X12_token_118 (by decide) ?_
    have e92 : zup (zup h' a 14 y.toInt) a 9 (h' a 9 + 1) a 9 = h' a 9 + 1 := zup_at _ _ _ _
    exact ih _ H2 locs2 ls2 ((g.up (Or.inr (Or.inr rfl))).up (Or.inl rfl)) hH2 hS2 (by rw [e92]; rw [ey2] at hl2; exact hl2) e92 (by omega)
  · rw [if_neg (fun q => hin ⟨(z_le32 (by omega) (by omega)).mp (by rw [← e97]; exact q.1), (z_le32 (by omega) (by omega)).mp (by rw [← e122]; exact q.2)⟩)]
    refine lv_if_eq (tgt := 121) hx hb zu_X12_token_85 (by decide) (fun _ => ?_) (fun q => absurd rfl q)
    refine K h' H locs ls g hH hS hl ?_
    apply Decidable.byContradiction
    intro q
    exact hin (hz (by omega))
set_option maxHeartbeats 4000000 in
/-- the letters of a word -/
theorem ztk_let {p : Program} {l : Launch} {e : Env} {R : Room} {s : State} {m : MethodId} {args : Array Value} {below : List Frame} {meth : Method} {c : Code} {Q : State → Prop} {D : va_G} {cy : Nat → ClassId} {L : List Nat} {Θ : Nat → Option Nat} {H0 : Heap} (X : hCx D vwCl cy L p s m args c cX12_token 3 (tyW cy) zTW RX12) (hKW : KW D cy s) (hf : 1 ≤ R.frames) (hlo : 22 ≤ R.locals) {a : Nat} (ha : Θ a = some 35) (h : Nat → Nat → Int) (hna : (h a 1).toNat ≠ a) (r0 : Int) (c0 : Int32)
    (K : ∀ (h' : Nat → Nat → Int) (H : Heap) (locs : List Loc) (ls : Array Slot), zdf h h' a → zH η zkdm D vwCl cy L Θ h' H → va_S (fun q => q ∈ L) H0 H locs → lv_has ls 3 [(2, .int (Int32.ofInt (h' a 9 - r0))), (1, .int c0), (0, .ref (η.1 a))] → r0 + 1 ≤ h' a 9 → W p l e R s m args below meth c H locs 0 0 Q (F0 m 121 ls [])) (hr0 : 0 ≤ r0) :
    ∀ (k : Nat) (h' : Nat → Nat → Int) (H : Heap) (locs : List Loc) (ls : Array Slot), 600 - h' a 9 ≤ (k : Int) → zdf h h' a → zH η zkdm D vwCl cy L Θ h' H → va_S (fun q => q ∈ L) H0 H locs → lv_has ls 3 [(2, .int (Int32.ofInt (h' a 9 - r0))), (1, .int c0), (0, .ref (η.1 a))] → r0 ≤ h' a 9 → (h' a 9 = r0 → 97 ≤ zsee h' a ∧ zsee h' a ≤ 122) → W p l e R s m args below meth c H locs 0 0 Q (F0 m 74 ls []) := by
  intro k
  induction k with
  | zero =>
    intro h' H locs ls hk g hH hS hl hr hz
    exact ztk_let_aux X hKW hf hlo ha h hna r0 c0 K hr0 h' H locs ls g hH hS hl hr hz (fun h2 H2 locs2 ls2 g2 hH2 hS2 hl2 e2 lt2 => by omega)
  | succ k ih =>
    intro h' H locs ls hk g hH hS hl hr hz
    exact ztk_let_aux X hKW hf hlo ha h hna r0 c0 K hr0 h' H locs ls g hH hS hl hr hz (fun h2 H2 locs2 ls2 g2 hH2 hS2 hl2 e2 lt2 => ih h2 H2 locs2 ls2 (by omega) g2 hH2 hS2 hl2 (by omega) (by omega))
