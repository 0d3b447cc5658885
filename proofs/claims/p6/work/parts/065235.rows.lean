theorem dcr_0 : decode cX12_copyRow 0 = .ok (.iconst 0, 1) := by decide +kernel
theorem dcr_1 : decode cX12_copyRow 1 = .ok (.istore 4, 2) := by decide +kernel
theorem dcr_3 : decode cX12_copyRow 3 = .ok (.iload 4, 2) := by decide +kernel
theorem dcr_5 : decode cX12_copyRow 5 = .ok (.iload_n 1, 1) := by decide +kernel
theorem dcr_6 : decode cX12_copyRow 6 = .ok (.if_icmp .ge 25, 3) := by decide +kernel
theorem dcr_9 : decode cX12_copyRow 9 = .ok (.aload_n 0, 1) := by decide +kernel
theorem dcr_10 : decode cX12_copyRow 10 = .ok (.iload_n 1, 1) := by decide +kernel
theorem dcr_11 : decode cX12_copyRow 11 = .ok (.iload_n 3, 1) := by decide +kernel
theorem dcr_12 : decode cX12_copyRow 12 = .ok (.imul, 1) := by decide +kernel
theorem dcr_13 : decode cX12_copyRow 13 = .ok (.iload 4, 2) := by decide +kernel
theorem dcr_15 : decode cX12_copyRow 15 = .ok (.iadd, 1) := by decide +kernel
theorem dcr_16 : decode cX12_copyRow 16 = .ok (.aload_n 0, 1) := by decide +kernel
theorem dcr_17 : decode cX12_copyRow 17 = .ok (.iload_n 1, 1) := by decide +kernel
theorem dcr_18 : decode cX12_copyRow 18 = .ok (.iload_n 2, 1) := by decide +kernel
theorem dcr_19 : decode cX12_copyRow 19 = .ok (.imul, 1) := by decide +kernel
theorem dcr_20 : decode cX12_copyRow 20 = .ok (.iload 4, 2) := by decide +kernel
theorem dcr_22 : decode cX12_copyRow 22 = .ok (.iadd, 1) := by decide +kernel
theorem dcr_23 : decode cX12_copyRow 23 = .ok (.iaload, 1) := by decide +kernel
theorem dcr_24 : decode cX12_copyRow 24 = .ok (.iastore, 1) := by decide +kernel
theorem dcr_25 : decode cX12_copyRow 25 = .ok (.iinc 4 1, 3) := by decide +kernel
theorem dcr_28 : decode cX12_copyRow 28 = .ok (.goto (-25), 3) := by decide +kernel
theorem dcr_31 : decode cX12_copyRow 31 = .ok (.return_, 1) := by decide +kernel
theorem dst_0 : decode cX12_store 0 = .ok (.iconst 0, 1) := by decide +kernel
theorem dst_1 : decode cX12_store 1 = .ok (.istore 4, 2) := by decide +kernel
theorem dst_3 : decode cX12_store 3 = .ok (.iload 4, 2) := by decide +kernel
theorem dst_5 : decode cX12_store 5 = .ok (.iload_n 2, 1) := by decide +kernel
theorem dst_6 : decode cX12_store 6 = .ok (.if_icmp .ge 24, 3) := by decide +kernel
theorem dst_9 : decode cX12_store 9 = .ok (.aload_n 1, 1) := by decide +kernel
theorem dst_10 : decode cX12_store 10 = .ok (.iload_n 2, 1) := by decide +kernel
theorem dst_11 : decode cX12_store 11 = .ok (.iload_n 3, 1) := by decide +kernel
theorem dst_12 : decode cX12_store 12 = .ok (.imul, 1) := by decide +kernel
theorem dst_13 : decode cX12_store 13 = .ok (.iload 4, 2) := by decide +kernel
theorem dst_15 : decode cX12_store 15 = .ok (.iadd, 1) := by decide +kernel
theorem dst_16 : decode cX12_store 16 = .ok (.aload_n 0, 1) := by decide +kernel
theorem dst_17 : decode cX12_store 17 = .ok (.getfield 35, 3) := by decide +kernel
theorem dst_20 : decode cX12_store 20 = .ok (.iload 4, 2) := by decide +kernel
theorem dst_22 : decode cX12_store 22 = .ok (.iaload, 1) := by decide +kernel
theorem dst_23 : decode cX12_store 23 = .ok (.iastore, 1) := by decide +kernel
theorem dst_24 : decode cX12_store 24 = .ok (.iinc 4 1, 3) := by decide +kernel
theorem dst_27 : decode cX12_store 27 = .ok (.goto (-24), 3) := by decide +kernel
theorem dst_30 : decode cX12_store 30 = .ok (.return_, 1) := by decide +kernel
theorem zkmB35 : zkdm[35]? = some (zkdm.getD 35 (0, 0, 0, [])) := rfl
theorem zkmB8 : zkdm[8]? = some (zkdm.getD 8 (0, 0, 0, [])) := rfl
theorem zfB_35 : zFok RX12 zTW vwCl (35, 12, 18, none) := ⟨RX12, TX12, 64, rfl, zx_12, by decide, zTin 1317 (by decide +kernel) rfl, fun _ h => by cases h⟩
variable {η : zRn}
/-! copyRow and store: a row of a block is laid from another -/
def zcpy (h : Nat → Nat → Int) (a a2 o o2 k : Nat) : Nat → Nat → Int := fun b j => if b = a ∧ o ≤ j ∧ j < o + k then h a2 (j - o + o2) else h b j
theorem zcpy_0 {h : Nat → Nat → Int} {a a2 o o2 : Nat} : zcpy h a a2 o o2 0 = h := by
  funext b j
  unfold zcpy
  rw [if_neg (by omega)]
theorem zcpy_s {h : Nat → Nat → Int} {a a2 o o2 k : Nat} : zup (zcpy h a a2 o o2 k) a (o + k) (h a2 (o2 + k)) = zcpy h a a2 o o2 (k + 1) := by
  funext b j
  unfold zup zcpy
  by_cases hb : b = a
  · by_cases hj : j = o + k
    · rw [if_pos ⟨hb, hj⟩, if_pos ⟨hb, by omega, by omega⟩, show j - o + o2 = o2 + k by omega]
    · rw [if_neg (fun q => hj q.2)]
      by_cases hc : o ≤ j ∧ j < o + k
      · rw [if_pos ⟨hb, hc⟩, if_pos ⟨hb, hc.1, by omega⟩]
      · rw [if_neg (fun q => hc q.2), if_neg (fun q => hc ⟨q.2.1, by omega⟩)]
  · rw [if_neg (fun q => hb q.1), if_neg (fun q => hb q.1), if_neg (fun q => hb q.1)]
theorem zcpy_src {h : Nat → Nat → Int} {a a2 o o2 k n j : Nat} (hd : a2 ≠ a ∨ o2 + n ≤ o ∨ o + n ≤ o2) (hk : k ≤ n) (hj : j < n) : zcpy h a a2 o o2 k a2 (o2 + j) = h a2 (o2 + j) := by
  unfold zcpy
  rw [if_neg]
  rintro ⟨h1, h2, h3⟩
  rcases hd with hd | hd | hd
  · exact hd h1
  · omega
  · omega
theorem zcpy_at {h : Nat → Nat → Int} {a a2 o o2 k j : Nat} (hj : j < k) : zcpy h a a2 o o2 k a (o + j) = h a2 (o2 + j) := by
  unfold zcpy
  rw [if_pos ⟨rfl, by omega, by omega⟩, show o + j - o + o2 = o2 + j by omega]
theorem zcpy_ne {h : Nat → Nat → Int} {a a2 o o2 k b j : Nat} (hb : ¬ (b = a ∧ o ≤ j ∧ j < o + k)) : zcpy h a a2 o o2 k b j = h b j := by
  unfold zcpy
  rw [if_neg hb]
theorem nI_mul (a b : Nat) : nI a * nI b = nI (a * b) := (Int32.ofNat_mul a b).symm
theorem z_ptr9 {D : va_G} {cl : List vw_C} {cy : Nat → ClassId} {L : List Nat} {Θ : Nat → Option Nat} {h : Nat → Nat → Int} {H : Heap} (hH : zH η zkdm D cl cy L Θ h H) {r : Nat} (hr : Θ r = some 35) : 0 ≤ h r 18 ∧ Θ (h r 18).toNat = some 8 := by
  obtain ⟨h1, h2, -⟩ := zH_in hH hr zkmB35 (j := 18) (by decide +kernel)
  rw [show zty (zkdm.getD 35 (0, 0, 0, [])) 18 = (10, 0, 2147483647) from by decide +kernel] at h1 h2
  rcases h1 with h1 | h1
  · simp only at h2
    omega
  · exact h1
section ZRW
variable {D : va_G} {cy : Nat → ClassId} {L : List Nat} {Θ : Nat → Option Nat} {h : Nat → Nat → Int} {H0 : Heap}
variable {p : Program} {l : Launch} {e : Env} {R : Room} {s : State} {m : MethodId} {args : Array Value} {below : List Frame} {meth : Method} {c : Code} {Q : State → Prop} {Ts : List Cond}
theorem zcr_lp (X : hCx D vwCl cy L p s m args c cX12_copyRow 5 (tyW cy) Ts RX12) {kk a n f t : Nat} {K : zKD} (hΘ : Θ a = some kk) (hK : zkdm[kk]? = some K) (hKf : K.1 = 1 ∧ K.2.1 = 0) (hnf : n * f + n ≤ K.2.2.1) (hnt : n * t + n ≤ K.2.2.1) (hKs : K.2.2.1 ≤ 100000) (hty : ∀ j, j < n → zty K (n * t + j) = zty K (n * f + j)) (ht0 : ∀ j, j < n → (zty K (n * f + j)).1 = 0) (hdis : n * f + n ≤ n * t ∨ n * t + n ≤ n * f) (hnb : n ≤ 100000)
    (hin : ∀ j, j < n → zok Θ (zty K (n * f + j)).1 (h a (n * f + j)) ∧ (zty K (n * f + j)).2.1 ≤ h a (n * f + j) ∧ h a (n * f + j) ≤ (zty K (n * f + j)).2.2)
    (KK : ∀ (H : Heap) (locs : List Loc) (ls : Array Slot), zH η zkdm D vwCl cy L Θ (zcpy h a a (n * t) (n * f) n) H → va_S (fun q => q ∈ L) H0 H locs → W p l e R s m args below meth c H locs 0 0 Q (F0 m 31 ls [])) :
    ∀ (d k : Nat) (H : Heap) (locs : List Loc) (ls : Array Slot), n - k ≤ d → k ≤ n → zH η zkdm D vwCl cy L Θ (zcpy h a a (n * t) (n * f) k) H → va_S (fun q => q ∈ L) H0 H locs → lv_has ls 5 [(4, .int (nI k)), (3, .int (nI t)), (2, .int (nI f)), (1, .int (nI n)), (0, .ref (η.1 a))] → W p l e R s m args below meth c H locs 0 0 Q (F0 m 3 ls []) := by
  obtain ⟨hx, hb, -, -, -, -, -, -⟩ := id X
  intro d
  induction d with
  | zero =>
    intro k H locs ls hd hk hH hS hl
    have ek : k = n := by omega
    subst ek
    refine lv_iload hx hb dcr_3 (lv_at hl 0 rfl) ?_
    refine lv_iload_n hx hb dcr_5 rfl (lv_at hl 3 rfl) ?_
    refine lv_icmp_ge (tgt := 31) hx hb dcr_6 (by decide) (fun _ => KK H locs ls hH hS) (fun q => absurd (Int32.le_refl _) q)
  | succ d ih =>
    intro k H locs ls hd hk hH hS hl
    refine lv_iload hx hb dcr_3 (lv_at hl 0 rfl) ?_
    refine lv_iload_n hx hb dcr_5 rfl (lv_at hl 3 rfl) ?_
    refine lv_icmp_ge (tgt := 31) hx hb dcr_6 (by decide) (fun q => ?_) (fun q => ?_)
    · have ek : k = n := by
        have := Int32.le_iff_toInt_le.mp q
        rw [nI_toInt (by omega), nI_toInt (by omega)] at this
        omega
      subst ek
      exact KK H locs ls hH hS
    · have hkn : k < n := by
        rcases Nat.lt_or_ge k n with h9 | h9
        · exact h9
        · exact absurd (by rw [show k = n by omega]; exact Int32.le_refl _) q
      have hft : f ≤ 100000 ∧ t ≤ 100000 := ⟨by
        have : f ≤ n * f := Nat.le_mul_of_pos_left f (by omega)
        omega, by
        have : t ≤ n * t := Nat.le_mul_of_pos_left t (by omega)
        omega⟩
      refine lv_aload_n hx hb dcr_9 rfl (lv_at hl 4 rfl) ?_
      refine lv_iload_n hx hb dcr_10 rfl (lv_at hl 3 rfl) ?_
      refine lv_iload_n hx hb dcr_11 rfl (lv_at hl 1 rfl) ?_
      refine lv_imul hx hb dcr_12 ?_
      rw [nI_mul]
      refine lv_iload hx hb dcr_13 (lv_at hl 0 rfl) ?_
      refine lv_iadd hx hb dcr_15 ?_
      rw [nI_add]
      refine lv_aload_n hx hb dcr_16 rfl (lv_at hl 4 rfl) ?_
      refine lv_iload_n hx hb dcr_17 rfl (lv_at hl 3 rfl) ?_
      refine lv_iload_n hx hb dcr_18 rfl (lv_at hl 2 rfl) ?_
      refine lv_imul hx hb dcr_19 ?_
      rw [nI_mul]
      refine lv_iload hx hb dcr_20 (lv_at hl 0 rfl) ?_
      refine lv_iadd hx hb dcr_22 ?_
      rw [nI_add]
      have i1 : (nI (n * f + k)).toInt = ((n * f + k : Nat) : Int) := nI_toInt (by omega)
      have i2 : (nI (n * t + k)).toInt = ((n * t + k : Nat) : Int) := nI_toInt (by omega)
      refine hw_iald X hΘ hK hKf (by rw [i1]; omega) hH dcr_23 ?_
      rw [i1, Int.toNat_natCast, zcpy_src (n := n) (Or.inr hdis) hk hkn]
      have hv := hin k hkn
      have hv0 := hv.1
      rw [ht0 k hkn] at hv0
      have ev : (Int32.ofInt (h a (n * f + k))).toInt = h a (n * f + k) := z_toi hv0.1 hv0.2
      refine hw_iast X hΘ hK hKf (by rw [i2]; omega) (by rw [i2, Int.toNat_natCast, hty k hkn, ev]; exact hv) hH hS dcr_24 (fun H1 locs1 hH1 hS1 => ?_)
      rw [i2, Int.toNat_natCast, ev, zcpy_s] at hH1
      refine lv_iinc (v := nI (k + 1)) (lv' := [(4, .int (nI (k + 1))), (3, .int (nI t)), (2, .int (nI f)), (1, .int (nI n)), (0, .ref (η.1 a))]) hx hb dcr_25 hl (k := 0) rfl (nI_succ k).symm (by decide) rfl (fun ls hl => ?_)
      refine lv_goto (tgt := 3) hx hb dcr_28 (by decide) ?_
      exact ih (k + 1) H1 locs1 ls (by omega) (by omega) hH1 hS1 hl
theorem zst_lp (X : hCx D vwCl cy L p s m args c cX12_store 5 (tyW cy) Ts RX12) (hF : zFok RX12 Ts vwCl (35, 12, 18, none)) {kk r a b n t : Nat} {K : zKD} (hr : Θ r = some 35) (hb8 : Θ b = some 8) (hrb : h r 18 = (b : Int)) (hΘ : Θ a = some kk) (hkk : kk ≠ 8 ∧ kk ≠ 35) (hK : zkdm[kk]? = some K) (hKf : K.1 = 1 ∧ K.2.1 = 0) (hn8 : n ≤ 121) (hnt : n * t + n ≤ K.2.2.1) (hKs : K.2.2.1 ≤ 100000) (ht0 : ∀ j, j < n → (zty K (n * t + j)).1 = 0)
    (hin : ∀ j, j < n → (-2147483648 ≤ h b j ∧ h b j ≤ 2147483647) ∧ (zty K (n * t + j)).2.1 ≤ h b j ∧ h b j ≤ (zty K (n * t + j)).2.2)
    (KK : ∀ (H : Heap) (locs : List Loc) (ls : Array Slot), zH η zkdm D vwCl cy L Θ (zcpy h a b (n * t) 0 n) H → va_S (fun q => q ∈ L) H0 H locs → W p l e R s m args below meth c H locs 0 0 Q (F0 m 30 ls [])) :
    ∀ (d k : Nat) (H : Heap) (locs : List Loc) (ls : Array Slot), n - k ≤ d → k ≤ n → zH η zkdm D vwCl cy L Θ (zcpy h a b (n * t) 0 k) H → va_S (fun q => q ∈ L) H0 H locs → lv_has ls 5 [(4, .int (nI k)), (3, .int (nI t)), (2, .int (nI n)), (1, .ref (η.1 a)), (0, .ref (η.1 r))] → W p l e R s m args below meth c H locs 0 0 Q (F0 m 3 ls []) := by
  obtain ⟨hx, hb, -, -, -, -, -, -⟩ := id X
  have hra : r ≠ a := fun q => by rw [q, hΘ] at hr; exact hkk.2 (Option.some.inj hr)
  have hba : b ≠ a := fun q => by rw [q, hΘ] at hb8; exact hkk.1 (Option.some.inj hb8)
  intro d
  induction d with
  | zero =>
    intro k H locs ls hd hk hH hS hl
    have ek : k = n := by omega
    subst ek
    refine lv_iload hx hb dst_3 (lv_at hl 0 rfl) ?_
    refine lv_iload_n hx hb dst_5 rfl (lv_at hl 2 rfl) ?_
    refine lv_icmp_ge (tgt := 30) hx hb dst_6 (by decide) (fun _ => KK H locs ls hH hS) (fun q => absurd (Int32.le_refl _) q)
  | succ d ih =>
    intro k H locs ls hd hk hH hS hl
    refine lv_iload hx hb dst_3 (lv_at hl 0 rfl) ?_
    refine lv_iload_n hx hb dst_5 rfl (lv_at hl 2 rfl) ?_
    refine lv_icmp_ge (tgt := 30) hx hb dst_6 (by decide) (fun q => ?_) (fun q => ?_)
    · have ek : k = n := by
        have := Int32.le_iff_toInt_le.mp q
        rw [nI_toInt (by omega), nI_toInt (by omega)] at this
        omega
      subst ek
      exact KK H locs ls hH hS
    · have hkn : k < n := by
        rcases Nat.lt_or_ge k n with h9 | h9
        · exact h9
        · exact absurd (by rw [show k = n by omega]; exact Int32.le_refl _) q
      refine lv_aload_n hx hb dst_9 rfl (lv_at hl 3 rfl) ?_
      refine lv_iload_n hx hb dst_10 rfl (lv_at hl 2 rfl) ?_
      refine lv_iload_n hx hb dst_11 rfl (lv_at hl 1 rfl) ?_
      refine lv_imul hx hb dst_12 ?_
      rw [nI_mul]
      refine lv_iload hx hb dst_13 (lv_at hl 0 rfl) ?_
      refine lv_iadd hx hb dst_15 ?_
      rw [nI_add]
      refine lv_aload_n hx hb dst_16 rfl (lv_at hl 4 rfl) ?_
      refine hw_get X hF hr zkmB35 ⟨rfl, rfl⟩ (by decide +kernel) hH dst_17 ?_
      rw [show (zty (zkdm.getD 35 (0, 0, 0, [])) 18).1 = 8 + 2 from rfl, zcpy_ne (fun q => hra q.1), hrb, z_dr]
      refine lv_iload hx hb dst_20 (lv_at hl 0 rfl) ?_
      have i1 : (nI k).toInt = ((k : Nat) : Int) := nI_toInt (by omega)
      have i2 : (nI (n * t + k)).toInt = ((n * t + k : Nat) : Int) := nI_toInt (by omega)
      refine hw_iald X hb8 zkmB8 ⟨rfl, rfl⟩ (by rw [i1]; show 0 ≤ (k : Int) ∧ (k : Int) < ((121 : Nat) : Int); omega) hH dst_22 ?_
      rw [i1, Int.toNat_natCast, zcpy_ne (fun q => hba q.1)]
      have hv := hin k hkn
      have ev : (Int32.ofInt (h b k)).toInt = h b k := z_toi hv.1.1 hv.1.2
      refine hw_iast X hΘ hK hKf (by rw [i2]; omega) (by rw [i2, Int.toNat_natCast, ev, ht0 k hkn]; exact hv) hH hS dst_23 (fun H1 locs1 hH1 hS1 => ?_)
      rw [i2, Int.toNat_natCast, ev] at hH1
      have es : zup (zcpy h a b (n * t) 0 k) a (n * t + k) (h b k) = zcpy h a b (n * t) 0 (k + 1) := by
        have := zcpy_s (h := h) (a := a) (a2 := b) (o := n * t) (o2 := 0) (k := k)
        rw [Nat.zero_add] at this
        exact this
      rw [es] at hH1
      refine lv_iinc (v := nI (k + 1)) (lv' := [(4, .int (nI (k + 1))), (3, .int (nI t)), (2, .int (nI n)), (1, .ref (η.1 a)), (0, .ref (η.1 r))]) hx hb dst_24 hl (k := 0) rfl (nI_succ k).symm (by decide) rfl (fun ls hl => ?_)
      refine lv_goto (tgt := 3) hx hb dst_27 (by decide) ?_
      exact ih (k + 1) H1 locs1 ls (by omega) (by omega) hH1 hS1 hl
end ZRW
theorem z_eqv {σ : List Int} {env : List zIV} {i : Nat} {x : Int} (hE : zge σ env) (h : env[i]? = some (x, x)) : σ.getD i 0 = x := by
  have := hE.2 i _ h
  simp only at this
  omega
/-- copyRow, by the numbers that it gets -/
def zcrC (n f t kk : Nat) (iv : List zIV) (ov ov' : List zOV) : zCT := ((yX12_copyRow, cX12_copyRow, 5, none), (0, 0), ([(kk + 2, 1, 0), (0, 2, 0), (0, 3, 0), (0, 4, 0)], ([(0, 0), (0, 2147483647), ((n : Int), (n : Int)), ((f : Int), (f : Int)), ((t : Int), (t : Int))] ++ iv, [(0, (kk + 2, 1, 0)), (1, (0, 2, 0)), (2, (0, 3, 0)), (3, (0, 4, 0))], [], ov, [])), [([(0, 0), (0, 2147483647), ((n : Int), (n : Int)), ((f : Int), (f : Int)), ((t : Int), (t : Int))] ++ iv, [], [], ov', [])], [(kk, n * t, n * t + n - 1)])
set_option maxHeartbeats 4000000 in
theorem zcr_met (l : Launch) (n f t kk : Nat) (iv : List zIV) (ov ov' : List zOV) (K : zKD) (hK : zkdm[kk]? = some K) (hKf : K.1 = 1 ∧ K.2.1 = 0) (hs : (decide (n * f + n ≤ K.2.2.1) && decide (n * t + n ≤ K.2.2.1) && decide (K.2.2.1 ≤ 100000) && decide (n ≤ 100000) && decide (1 ≤ n) && (decide (n * f + n ≤ n * t) || decide (n * t + n ≤ n * f)) && (List.range n).all (fun j => decide (zty K (n * t + j) = zty K (n * f + j)) && decide ((zty K (n * f + j)).1 = 0))) = true)
    (ho : ov'.all (fun o => decide (o.1 = (kk, 1)) && decide (n * t ≤ o.2.1) && decide (o.2.1 < n * t + n) && decide (((kk, 1), o.2.1 - n * t + n * f, o.2.2) ∈ ov)) = true) : zMet zkdm vwCl zTW zKPr l (zcrC n f t kk iv ov ov') := by
  intro η D cy L Θ h σ hnd hE hA hV hR
  simp only [Bool.and_eq_true, Bool.or_eq_true, decide_eq_true_eq] at hs
  obtain ⟨⟨⟨⟨⟨⟨s1, s2⟩, s3⟩, s4⟩, s5⟩, s6⟩, s7⟩ := hs
  have hty : ∀ j, j < n → zty K (n * t + j) = zty K (n * f + j) ∧ (zty K (n * f + j)).1 = 0 := fun j hj => by
    have := List.all_eq_true.mp s7 j (List.mem_range.mpr hj)
    simp only [Bool.and_eq_true, decide_eq_true_eq] at this
    exact this
  have g1 : zga Θ σ (kk + 2, 1, 0) := hA _ List.mem_cons_self
  obtain ⟨ea, na, Θa⟩ := z_nnr (η := η) (kk := kk) (a := (kk + 2, 1, 0)) (by simp [znn, zcrC, ziv]) hE g1 rfl
  obtain ⟨a, hσ1⟩ : ∃ a : Nat, σ.getD 1 0 = (a : Int) := ⟨(σ.getD 1 0).toNat, by simp only at na; omega⟩
  simp only at ea Θa
  rw [hσ1, Int.toNat_natCast] at ea Θa
  have v2 : zvo η σ (0, 2, 0) = .int (nI n) := by
    unfold zvo zev
    simp only
    rw [z_eqv hE (i := 2) (x := n) rfl, Int.add_zero]
    rfl
  have v3 : zvo η σ (0, 3, 0) = .int (nI f) := by
    unfold zvo zev
    simp only
    rw [z_eqv hE (i := 3) (x := f) rfl, Int.add_zero]
    rfl
  have v4 : zvo η σ (0, 4, 0) = .int (nI t) := by
    unfold zvo zev
    simp only
    rw [z_eqv hE (i := 4) (x := t) rfl, Int.add_zero]
    rfl
  have hmap : (zcrC n f t kk iv ov ov').2.2.1.1.map (zvo η σ) = [.ref (η.1 a), .int (nI n), .int (nI f), .int (nI t)] := by
    show List.map (zvo η σ) [(kk + 2, 1, 0), (0, 2, 0), (0, 3, 0), (0, 4, 0)] = _
    simp only [List.map_cons, List.map_nil, ea, v2, v3, v4]
  rw [hmap]
  refine Met.ofW (cc := cX12_copyRow) (maxL := 5) (ret := none) (show plainName RX12 = true by decide) rfl ?_
  intro p e s m args below meth c s₁ B hml hv
  obtain ⟨rfl, hH, hKW⟩ := hv
  have hx := B.exec
  have hb := B.bytes
  have hr := B.returns
  have hts := atoms_spec (ws := Cond.code yX12_copyRow cX12_copyRow 5 none :: zTW) B.pre
  have hown : s.vm.findClass RX12 = some m.cls := findClass_of_methodNamed B.named
  have hKa := (zkpr_ok.1 _ _ _ _ _ _ hKW)
  have X : hCx D vwCl cy L p s m _ c cX12_copyRow 5 (tyW cy) _ RX12 := ⟨hx, hb, hml, hts, hown, hKa.1, hKa.2, hnd⟩
  have hl := lv_entry ([.ref (η.1 a), .int (nI n), .int (nI f), .int (nI t)]) (n := 5) (Nat.le_of_ble_eq_true rfl)
  rw [lg_entry_eq]
  generalize (lg_sl ([.ref (η.1 a), .int (nI n), .int (nI f), .int (nI t)]) ++ List.replicate (5 - (lg_sl ([.ref (η.1 a), .int (nI n), .int (nI f), .int (nI t)])).length) Slot.unset).toArray = ls at hl ⊢
  have hl : lv_has ls 5 [(0, .ref (η.1 a)), (1, .int (nI n)), (2, .int (nI f)), (3, .int (nI t))] := hl
  have hS0 : va_S (fun q => q ∈ L) s.heap s.heap [] := va_S.rf
  refine lv_iconst (v := nI 0) hx hb dcr_0 (by decide +kernel) ?_
  refine lv_istore (lv' := [(4, .int (nI 0)), (0, .ref (η.1 a)), (1, .int (nI n)), (2, .int (nI f)), (3, .int (nI t))]) hx hb dcr_1 hl (by decide) rfl (fun ls hl => ?_)
  refine zcr_lp (h := h) X Θa hK hKf s1 s2 s3 (fun j hj => (hty j hj).1) (fun j hj => (hty j hj).2) s6 s4 (fun j hj => zH_in hH Θa hK (by omega)) (fun H locs ls hH1 hS1 => ?_) n 0 s.heap [] ls (by omega) (by omega) (by rw [zcpy_0]; exact hH) hS0 (lv_sub hl [0, 4, 3, 2, 1] rfl)
  refine W.vret hx hb hr (fun t9 ht hW => ⟨none, _, [], _, rfl, List.mem_cons_self, ?_, ?_, rfl, ?_, ?_, by rw [ht]; exact hH1, ?_, hS1.F ht⟩) hS1.2.2 dcr_31
  · rw [List.append_nil]
    exact hE
  · intro q hq
    cases hq
  · intro o hoo
    rw [List.append_nil]
    have ho9 := List.all_eq_true.mp ho o hoo
    simp only [Bool.and_eq_true, decide_eq_true_eq] at ho9
    obtain ⟨⟨⟨o1, o2⟩, o3⟩, o4⟩ := ho9
    obtain ⟨f1, f2, f3, f4, f5⟩ := hV _ o4
    simp only at f1 f2 f3 f4 f5
    obtain ⟨⟨k1, k2⟩, sl, v⟩ := o
    simp only at o1 o2 o3 o4 f1 f2 f3 f4 f5 ⊢
    cases o1
    refine ⟨f1, f2, f3, f4, ?_⟩
    rw [hσ1, Int.toNat_natCast] at f5 ⊢
    rw [← f5, show sl = n * t + (sl - n * t) by omega, zcpy_at (by omega), show n * f + (sl - n * t) = n * t + (sl - n * t) - n * t + n * f by omega]
  · exact fun o ho9 => (by cases ho9)
  · intro b kb j hb9 hz
    refine zcpy_ne (fun q => ?_)
    obtain ⟨rfl, q1, q2⟩ := q
    rw [Θa] at hb9
    have ekb := Option.some.inj hb9
    subst ekb
    have : zinE [(kk, n * t, n * t + n - 1)] kk j j = true := by
      unfold zinE
      simp only [List.any_cons, List.any_nil, Bool.or_false, Bool.and_eq_true, decide_eq_true_eq]
      exact ⟨⟨trivial, q1⟩, by omega⟩
    rw [show zinE (zcrC n f t kk iv ov ov').2.2.2.2 kk j j = zinE [(kk, n * t, n * t + n - 1)] kk j j from rfl, this] at hz
    cases hz
/-- store, by the numbers that it gets -/
def zstC (n t kk : Nat) (iv : List zIV) (ov ov' : List zOV) : zCT := ((yX12_store, cX12_store, 5, none), (0, 0), ([(37, 1, 0), (kk + 2, 2, 0), (0, 3, 0), (0, 4, 0)], ([(0, 0), (0, 2147483647), (0, 2147483647), ((n : Int), (n : Int)), ((t : Int), (t : Int)), (0, 2147483647)] ++ iv, [(0, (37, 1, 0)), (1, (kk + 2, 2, 0)), (2, (0, 3, 0)), (3, (0, 4, 0))], [], ((35, 1), 18, (10, 5, 0)) :: ov, [])), [([(0, 0), (0, 2147483647), (0, 2147483647), ((n : Int), (n : Int)), ((t : Int), (t : Int)), (0, 2147483647)] ++ iv, [], [], ov', [])], [(kk, n * t, n * t + n - 1)])
set_option maxHeartbeats 4000000 in
theorem zst_met (l : Launch) (n t kk : Nat) (iv : List zIV) (ov ov' : List zOV) (K : zKD) (hkk : kk ≠ 8 ∧ kk ≠ 35) (hK : zkdm[kk]? = some K) (hKf : K.1 = 1 ∧ K.2.1 = 0)
    (hs : (decide (n ≤ 121) && decide (n * t + n ≤ K.2.2.1) && decide (K.2.2.1 ≤ 100000) && decide (1 ≤ n) && (List.range n).all (fun j => decide ((zty K (n * t + j)).1 = 0) && ((decide ((zty K (n * t + j)).2.1 ≤ -1) && decide (99 ≤ (zty K (n * t + j)).2.2)) || (match zlook ov 8 5 j with
      | some v => (match ziv ([(0, 0), (0, 2147483647), (0, 2147483647), ((n : Int), (n : Int)), ((t : Int), (t : Int)), (0, 2147483647)] ++ iv) v with
        | some q => decide ((zty K (n * t + j)).2.1 ≤ q.1) && decide (q.2 ≤ (zty K (n * t + j)).2.2)
        | none => false)
      | none => false)))) = true)
    (ho : ov'.all (fun o => decide (o.1 = (kk, 2)) && decide (n * t ≤ o.2.1) && decide (o.2.1 < n * t + n) && decide (((8, 5), o.2.1 - n * t, o.2.2) ∈ ov)) = true) : zMet zkdm vwCl zTW zKPr l (zstC n t kk iv ov ov') := by
  intro η D cy L Θ h σ hnd hE hA hV hR
  simp only [Bool.and_eq_true, decide_eq_true_eq] at hs
  obtain ⟨⟨⟨⟨s1, s2⟩, s3⟩, s4⟩, s5⟩ := hs
  have g1 : zga Θ σ (37, 1, 0) := hA _ List.mem_cons_self
  have g2 : zga Θ σ (kk + 2, 2, 0) := hA _ (List.mem_cons_of_mem _ List.mem_cons_self)
  obtain ⟨ea, na, Θr⟩ := z_nnr (η := η) (kk := 35) (a := (37, 1, 0)) (by simp [znn, zstC, ziv]) hE g1 rfl
  obtain ⟨eb, nb, Θa⟩ := z_nnr (η := η) (kk := kk) (a := (kk + 2, 2, 0)) (by simp [znn, zstC, ziv]) hE g2 rfl
  simp only at ea na Θr eb nb Θa
  obtain ⟨r, hσ1⟩ : ∃ a : Nat, σ.getD 1 0 = (a : Int) := ⟨(σ.getD 1 0).toNat, by omega⟩
  obtain ⟨a, hσ2⟩ : ∃ a : Nat, σ.getD 2 0 = (a : Int) := ⟨(σ.getD 2 0).toNat, by omega⟩
  rw [hσ1, Int.toNat_natCast] at ea Θr
  rw [hσ2, Int.toNat_natCast] at eb Θa
  have v3 : zvo η σ (0, 3, 0) = .int (nI n) := by
    unfold zvo zev
    simp only
    rw [z_eqv hE (i := 3) (x := n) rfl, Int.add_zero]
    rfl
  have v4 : zvo η σ (0, 4, 0) = .int (nI t) := by
    unfold zvo zev
    simp only
    rw [z_eqv hE (i := 4) (x := t) rfl, Int.add_zero]
    rfl
  have hmap : (zstC n t kk iv ov ov').2.2.1.1.map (zvo η σ) = [.ref (η.1 r), .ref (η.1 a), .int (nI n), .int (nI t)] := by
    show List.map (zvo η σ) [(37, 1, 0), (kk + 2, 2, 0), (0, 3, 0), (0, 4, 0)] = _
    simp only [List.map_cons, List.map_nil, ea, eb, v3, v4]
  rw [hmap]
  refine Met.ofW (cc := cX12_store) (maxL := 5) (ret := none) (show plainName RX12 = true by decide) rfl ?_
  intro p e s m args below meth c s₁ B hml hv
  obtain ⟨rfl, hH, hKW⟩ := hv
  have hx := B.exec
  have hb := B.bytes
  have hr := B.returns
  have hts := atoms_spec (ws := Cond.code yX12_store cX12_store 5 none :: zTW) B.pre
  have hown : s.vm.findClass RX12 = some m.cls := findClass_of_methodNamed B.named
  have hKa := (zkpr_ok.1 _ _ _ _ _ _ hKW)
  have X : hCx D vwCl cy L p s m _ c cX12_store 5 (tyW cy) _ RX12 := ⟨hx, hb, hml, hts, hown, hKa.1, hKa.2, hnd⟩
  -- what is told
  obtain ⟨o1, o2, o3, o4, o5⟩ := hV ((35, 1), 18, (10, 5, 0)) List.mem_cons_self
  simp only at o1 o2 o3 o4 o5
  rw [hσ1, Int.toNat_natCast] at o5
  have o6 : h r 18 = σ.getD 5 0 := by
    rw [o5]
    show σ.getD 5 0 + 0 = _
    rw [Int.add_zero]
  have p18 := z_ptr9 hH Θr
  obtain ⟨b, hb9⟩ : ∃ b : Nat, h r 18 = (b : Int) := ⟨(h r 18).toNat, by omega⟩
  have Θb : Θ b = some 8 := by
    have := p18.2
    rw [hb9, Int.toNat_natCast] at this
    exact this
  have hV2 : zgv Θ h σ ov := fun o hoo => hV o (List.mem_cons_of_mem _ hoo)
  have hin : ∀ j, j < n → (-2147483648 ≤ h b j ∧ h b j ≤ 2147483647) ∧ (zty K (n * t + j)).2.1 ≤ h b j ∧ h b j ≤ (zty K (n * t + j)).2.2 := by
    intro j hj
    have hs9 := List.all_eq_true.mp s5 j (List.mem_range.mpr hj)
    simp only [Bool.and_eq_true, Bool.or_eq_true, decide_eq_true_eq] at hs9
    have hbd : -1 ≤ h b j ∧ h b j ≤ 99 := by
      have h9 := zH_in hH Θb zkmB8 (j := j) (by show j < 121; omega)
      have e9 : zty (zkdm.getD 8 (0, 0, 0, [])) j = (0, -1, 99) := by
        unfold zty
        rw [show (zkdm.getD 8 (0, 0, 0, [])).2.2.2 = [(0, -1, 99)] from rfl]
        simp [Nat.mod_one]
      rw [e9] at h9
      exact ⟨h9.2.1, h9.2.2⟩
    refine ⟨⟨by omega, by omega⟩, ?_⟩
    rcases hs9.2 with q | q
    · exact ⟨by omega, by omega⟩
    · split at q
      · rename_i v hv9
        split at q
        · rename_i w hw9
          simp only [Bool.and_eq_true, decide_eq_true_eq] at q
          have f5 := (hV2 _ (z_look hv9)).2.2.2.2
          simp only at f5
          rw [← o6, hb9, Int.toNat_natCast] at f5
          have := z_iv hE hw9
          rw [f5]
          omega
        · cases q
      · cases q
  have hl := lv_entry ([.ref (η.1 r), .ref (η.1 a), .int (nI n), .int (nI t)]) (n := 5) (Nat.le_of_ble_eq_true rfl)
  rw [lg_entry_eq]
  generalize (lg_sl ([.ref (η.1 r), .ref (η.1 a), .int (nI n), .int (nI t)]) ++ List.replicate (5 - (lg_sl ([.ref (η.1 r), .ref (η.1 a), .int (nI n), .int (nI t)])).length) Slot.unset).toArray = ls at hl ⊢
  have hl : lv_has ls 5 [(0, .ref (η.1 r)), (1, .ref (η.1 a)), (2, .int (nI n)), (3, .int (nI t))] := hl
  have hS0 : va_S (fun q => q ∈ L) s.heap s.heap [] := va_S.rf
  refine lv_iconst (v := nI 0) hx hb dst_0 (by decide +kernel) ?_
  refine lv_istore (lv' := [(4, .int (nI 0)), (0, .ref (η.1 r)), (1, .ref (η.1 a)), (2, .int (nI n)), (3, .int (nI t))]) hx hb dst_1 hl (by decide) rfl (fun ls hl => ?_)
  refine zst_lp (h := h) X (zFok_mono (fun w hw => List.mem_cons_of_mem _ hw) zfB_35) Θr Θb hb9 Θa hkk hK hKf s1 s2 s3 (fun j hj => by
    have hs9 := List.all_eq_true.mp s5 j (List.mem_range.mpr hj)
    simp only [Bool.and_eq_true, decide_eq_true_eq] at hs9
    exact hs9.1) hin (fun H locs ls hH1 hS1 => ?_) n 0 s.heap [] ls (by omega) (by omega) (by rw [zcpy_0]; exact hH) hS0 (lv_sub hl [0, 4, 3, 2, 1] rfl)
  refine W.vret hx hb hr (fun t9 ht hW => ⟨none, _, [], _, rfl, List.mem_cons_self, ?_, ?_, rfl, ?_, ?_, by rw [ht]; exact hH1, ?_, hS1.F ht⟩) hS1.2.2 dst_30
  · rw [List.append_nil]
    exact hE
  · intro q hq
    cases hq
  · intro o hoo
    rw [List.append_nil]
    have ho9 := List.all_eq_true.mp ho o hoo
    simp only [Bool.and_eq_true, decide_eq_true_eq] at ho9
    obtain ⟨⟨⟨o1, o2⟩, o3⟩, o4⟩ := ho9
    obtain ⟨f1, f2, f3, f4, f5⟩ := hV2 _ o4
    simp only at f1 f2 f3 f4 f5
    obtain ⟨⟨k1, k2⟩, sl, v⟩ := o
    simp only at o1 o2 o3 o4 f1 f2 f3 f4 f5 ⊢
    cases o1
    have l2 : 2 < σ.length := g2.1
    refine ⟨l2, f2, by rw [hσ2]; exact Int.natCast_nonneg _, by rw [hσ2, Int.toNat_natCast]; exact Θa, ?_⟩
    rw [hσ2, Int.toNat_natCast]
    rw [← o6, hb9, Int.toNat_natCast] at f5
    rw [← f5, show sl = n * t + (sl - n * t) by omega, zcpy_at (by omega), show 0 + (sl - n * t) = n * t + (sl - n * t) - n * t by omega]
  · exact fun o ho9 => (by cases ho9)
  · intro b9 kb j hb8 hz
    refine zcpy_ne (fun q => ?_)
    obtain ⟨rfl, q1, q2⟩ := q
    rw [Θa] at hb8
    have ekb := Option.some.inj hb8
    subst ekb
    have : zinE [(kk, n * t, n * t + n - 1)] kk j j = true := by
      unfold zinE
      simp only [List.any_cons, List.any_nil, Bool.or_false, Bool.and_eq_true, decide_eq_true_eq]
      exact ⟨⟨trivial, q1⟩, by omega⟩
    rw [show zinE (zstC n t kk iv ov ov').2.2.2.2 kk j j = zinE [(kk, n * t, n * t + n - 1)] kk j j from rfl, this] at hz
    cases hz
