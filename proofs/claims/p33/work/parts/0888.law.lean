variable {η : zRn}
/-! what an end says of slots -/
theorem cLn_of {Θ : Nat → Option Nat} {h : Nat → Nat → Int} {σ : List Int} {ov : List zOV} {a i j : Nat} {v : zAV} (hV : zgv Θ h σ ov) (hs : σ.getD 1 0 = (a : Int)) (h1 : ((63, 1), 0, (30, i, 0)) ∈ ov) (h2 : ((28, i), 0, (3, j, 0)) ∈ ov) (h3 : ((1, j), 1, v) ∈ ov) : cLn h a = zev σ v := by
  have g1 := (hV _ h1).2.2.2.2
  have g2 := (hV _ h2).2.2.2.2
  have g3 := (hV _ h3).2.2.2.2
  simp only at g1 g2 g3
  rw [hs, Int.toNat_natCast] at g1
  unfold cLn
  have e1 : h a 0 = σ.getD i 0 := by
    rw [g1]
    show σ.getD i 0 + 0 = _
    rw [Int.add_zero]
  have e2 : h (σ.getD i 0).toNat 0 = σ.getD j 0 := by
    rw [g2]
    show σ.getD j 0 + 0 = _
    rw [Int.add_zero]
  rw [e1, e2, g3]
def jEl (ov : List zOV) (f kd k : Nat) : Option zAV := match zlook ov 35 1 f with
  | some q => if q.2.2 = 0 then zlook ov kd q.2.1 k else none
  | none => none
theorem jEl_ok {Ξ : Nat → Option Nat} {g : Nat → Nat → Int} {σ : List Int} {ov : List zOV} {r f kd k : Nat} {v : zAV} (hV : zgv Ξ g σ ov) (hs : σ.getD 1 0 = (r : Int)) (hj : jEl ov f kd k = some v) : g (g r f).toNat k = zev σ v := by
  unfold jEl at hj
  split at hj
  · rename_i q hq
    split at hj
    · rename_i h0
      have g1 := (hV _ (z_look hq)).2.2.2.2
      have g2 := (hV _ (z_look hj)).2.2.2.2
      simp only at g1 g2
      rw [hs, Int.toNat_natCast] at g1
      have e1 : g r f = σ.getD q.2.1 0 := by
        rw [g1]
        unfold zev
        rw [h0, Int.add_zero]
      rw [e1, g2]
    · cases hj
  · cases hj
/-- the seas of a block, by the bounds of an end -/
def jB (o : zAS) (t : Nat) : Bool := match jEl o.2.2.2.1 5 4 (3 * t), jEl o.2.2.2.1 6 5 (100 * t), jEl o.2.2.2.1 6 5 (100 * t + 4), jEl o.2.2.2.1 6 5 (100 * t + 50), jEl o.2.2.2.1 6 5 (100 * t + 54) with
  | some m, some a, some b, some c, some d => (match ziv o.1 m, ziv o.1 a, ziv o.1 b, ziv o.1 c, ziv o.1 d with
    | some qm, some qa, some qb, some qc, some qd => (decide (qm.2 ≤ 0) || (decide (2 ≤ qa.1) && decide (1 ≤ qb.1))) && (decide (qm.2 ≤ 1) || (decide (2 ≤ qc.1) && decide (1 ≤ qd.1)))
    | _, _, _, _, _ => false)
  | _, _, _, _, _ => false
theorem jB_ok {Ξ : Nat → Option Nat} {g : Nat → Nat → Int} {σ : List Int} {o : zAS} {r t : Nat} (hE : zge σ o.1) (hV : zgv Ξ g σ o.2.2.2.1) (hs : σ.getD 1 0 = (r : Int)) (h : jB o t = true) : lJb g r t := by
  unfold jB at h
  split at h
  · rename_i m a b c d hm ha hb hc hd
    split at h
    · rename_i qm qa qb qc qd im ia ib ic id
      have em := jEl_ok hV hs hm
      have ea := jEl_ok hV hs ha
      have eb := jEl_ok hV hs hb
      have ec := jEl_ok hV hs hc
      have ed := jEl_ok hV hs hd
      have bm := z_iv hE im
      have ba := z_iv hE ia
      have bb := z_iv hE ib
      have bc := z_iv hE ic
      have bd := z_iv hE id
      simp only [Bool.and_eq_true, Bool.or_eq_true, decide_eq_true_eq] at h
      unfold lJb rMn rSe
      rw [em, ea, eb, ec, ed]
      refine ⟨fun h0 => ?_, fun h0 => ?_⟩
      · rcases h.1 with q | q
        · omega
        · omega
      · rcases h.2 with q | q
        · omega
        · omega
    · cases h
  · cases h
theorem z_gd1 {a : Nat} {As T ρ : List Int} : ((([0, (a : Int)] ++ As) ++ T) ++ ρ).getD 1 0 = (a : Int) := by simp
theorem z_gdn {a : Nat} {As T ρ : List Int} {n j : Nat} (hn : n = 2 + As.length) (hj : j < T.length) : ((([0, (a : Int)] ++ As) ++ T) ++ ρ).getD (n + j) 0 = T.getD j 0 := by
  rw [z_gd (by rw [List.length_append, List.length_append]; show n + j < 2 + As.length + T.length; omega), hn, z_tl]
theorem z_lnn {a : Nat} {As T : List Int} {n j : Nat} (hn : n = 2 + As.length) (hj : j < T.length) : n + j < (([0, (a : Int)] ++ As) ++ T).length := by
  rw [List.length_append, List.length_append]
  show n + j < 2 + As.length + T.length
  omega
theorem z_gdm {a : Nat} {As T : List Int} {n j : Nat} (hn : n = 2 + As.length) : (([0, (a : Int)] ++ As) ++ T).getD (n + j) 0 = T.getD j 0 := by rw [hn, z_tl]
theorem z_gd1m {a : Nat} {As T : List Int} : (([0, (a : Int)] ++ As) ++ T).getD 1 0 = (a : Int) := by simp
theorem z_ln1 {a : Nat} {As T : List Int} : 1 < (([0, (a : Int)] ++ As) ++ T).length := by
  rw [List.length_append, List.length_append]
  show 1 < 2 + As.length + T.length
  omega
/-- two slots more: a pointer of the receiver, and one number behind it -/
theorem z_ovp {Θ : Nat → Option Nat} {h : Nat → Nat → Int} {a kk f t kd n j : Nat} {As T : List Int} {r : List zOV} (hn : n = 2 + As.length) (hj : j < T.length) (ha : Θ a = some kk) (hT : T.getD j 0 = h a f) (hp : 0 ≤ h a f ∧ Θ (h a f).toNat = some kd) (ht : t = kd + 2) (hr : zgv Θ h (([0, (a : Int)] ++ As) ++ T) r) : zgv Θ h (([0, (a : Int)] ++ As) ++ T) (((kk, 1), f, (t, n + j, 0)) :: r) := by
  subst ht
  refine z_ov1 z_ln1 (z_lnn hn hj) (by rw [z_gd1m]; exact Int.natCast_nonneg _) (by rw [z_gd1m, Int.toNat_natCast]; exact ha) (by rw [z_gd1m, z_gdm hn, Int.toNat_natCast, hT]) (by rw [z_gdm hn, hT]; exact Or.inr hp) hr
theorem z_ovn {Θ : Nat → Option Nat} {h : Nat → Nat → Int} {a kd n j jj sl q : Nat} {As T : List Int} {r : List zOV} {A B : Int} (hn : n = 2 + As.length) (hj : j < T.length) (hjj : jj < T.length) (hT : T.getD j 0 = (q : Int)) (hq : Θ q = some kd) (hT2 : T.getD jj 0 = h q sl) (hb : A ≤ h q sl ∧ h q sl ≤ B) (hA : -2147483648 ≤ A) (hB : B ≤ 2147483647) (hr : zgv Θ h (([0, (a : Int)] ++ As) ++ T) r) : zgv Θ h (([0, (a : Int)] ++ As) ++ T) (((kd, n + j), sl, (0, n + jj, 0)) :: r) := by
  refine z_ov1 (z_lnn hn hj) (z_lnn hn hjj) (by rw [z_gdm hn, hT]; exact Int.natCast_nonneg _) (by rw [z_gdm hn, hT, Int.toNat_natCast]; exact hq) (by rw [z_gdm hn, z_gdm hn, hT, hT2, Int.toNat_natCast]) (by rw [z_gdm hn, hT2]; exact ⟨by omega, by omega⟩) hr
theorem z_ovq {Θ : Nat → Option Nat} {h : Nat → Nat → Int} {a kd n j jj sl q t kt : Nat} {As T : List Int} {r : List zOV} (hn : n = 2 + As.length) (hj : j < T.length) (hjj : jj < T.length) (hT : T.getD j 0 = (q : Int)) (hq : Θ q = some kd) (hT2 : T.getD jj 0 = h q sl) (hp : h q sl = -1 ∨ (0 ≤ h q sl ∧ Θ (h q sl).toNat = some kt)) (ht : t = kt + 2) (hr : zgv Θ h (([0, (a : Int)] ++ As) ++ T) r) : zgv Θ h (([0, (a : Int)] ++ As) ++ T) (((kd, n + j), sl, (t, n + jj, 0)) :: r) := by
  subst ht
  refine z_ov1 (z_lnn hn hj) (z_lnn hn hjj) (by rw [z_gdm hn, hT]; exact Int.natCast_nonneg _) (by rw [z_gdm hn, hT, Int.toNat_natCast]; exact hq) (by rw [z_gdm hn, z_gdm hn, hT, hT2, Int.toNat_natCast]) (by rw [z_gdm hn, hT2]; exact hp) hr
section LOV
variable {D : va_G} {cy : Nat → ClassId} {L M : List Nat} {Θ Ξ : Nat → Option Nat} {h g : Nat → Nat → Int} {H : Heap} {a r : Nat} {As : List Int} {n : Nat}
/-- what is told -/
theorem tOv_ok (hn : n = 2 + As.length) (hH : zH η zkds D vwCl cy L Θ h H) (ha : Θ a = some 63) : zgv Θ h (([0, (a : Int)] ++ As) ++ [h a 0, h (h a 0).toNat 0, cLn h a]) [((63, 1), 0, (30, n, 0)), ((28, n), 0, (3, n + 1, 0)), ((1, n + 1), 1, (0, n + 2, 0))] := by
  have c0 := cP0 hH ha
  have c2 := cP2 hH ha
  have c3 := cP3 hH ha
  refine z_ovp (j := 0) (kd := 28) hn (by simp) ha rfl c0 rfl ?_
  refine z_ovq (j := 0) (jj := 1) (kt := 1) (q := (h a 0).toNat) hn (by simp) (by simp) (by show h a 0 = _; omega) c0.2 rfl (Or.inr c2) rfl ?_
  exact z_ovn (j := 1) (jj := 2) (q := (h (h a 0).toNat 0).toNat) (A := 0) (B := 600) hn (by simp) (by simp) (by show h (h a 0).toNat 0 = _; omega) c2.2 rfl c3 (by decide) (by decide) z_ov0
theorem tIv_ok (hH : zH η zkds D vwCl cy L Θ h H) (ha : Θ a = some 63) : zge [h a 0, h (h a 0).toNat 0, cLn h a] [(0, 2147483647), (0, 2147483647), (0, 600)] := by
  have c0 := cP0 hH ha
  have c2 := cP2 hH ha
  have c3 := cP3 hH ha
  have b0 : h a 0 ≤ 2147483647 := (zH_in hH ha zkd_63 (j := 0) (by decide)).2.2
  have b2 : h (h a 0).toNat 0 ≤ 2147483647 := (zH_in hH c0.2 zkd_28 (j := 0) (by decide)).2.2
  exact zg_c c0.1 b0 (zg_c c2.1 b2 (zg_c c3.1 c3.2 zg_n))
/-- how much is told, of the reference -/
theorem uOv_ok (hn : n = 2 + As.length) (hG : zH η zkdm D vwCl cy M Ξ g H) (hr : Ξ r = some 35) : zgv Ξ g (([0, (r : Int)] ++ As) ++ [g r 2, rSz g r 0]) [((35, 1), 2, (3, n, 0)), ((1, n), 0, (0, n + 1, 0))] := by
  have p2 := rP2 hG hr
  refine z_ovp (j := 0) (kd := 1) hn (by simp) hr rfl p2 rfl ?_
  exact z_ovn (j := 0) (jj := 1) (q := (g r 2).toNat) (A := 0) (B := 600) hn (by simp) (by simp) (by show g r 2 = _; omega) p2.2 rfl (rBs hG hr (k := 0) (by decide)) (by decide) (by decide) z_ov0
theorem uIv_ok (hG : zH η zkdm D vwCl cy M Ξ g H) (hr : Ξ r = some 35) : zge [g r 2, rSz g r 0] [(0, 2147483647), (0, 600)] := by
  have p2 := rP2 hG hr
  have b2 : g r 2 ≤ 2147483647 := (zH_in hG hr zkm_35 (j := 2) (by decide +kernel)).2.2
  exact zg_c p2.1 b2 (zg_c (rBs hG hr (k := 0) (by decide)).1 (rBs hG hr (k := 0) (by decide)).2 zg_n)
/-- a block of the reference, and whether an image is kept -/
def bTv (g : Nat → Nat → Int) (r t k : Nat) : List Int := [g r 2, rSz g r t, g r 5, rMn g r (3 * t), rMn g r (3 * t + 1), rMn g r (3 * t + 2), g r 6, rSe g r (100 * t), rSe g r (100 * t + 4), rSe g r (100 * t + 50), rSe g r (100 * t + 54), g r 63, rKp g r k]
def bOv (n t k : Nat) : List zOV := [((35, 1), 2, (3, n + 0, 0)), ((1, n + 0), t, (0, n + 1, 0)), ((35, 1), 5, (6, n + 2, 0)), ((4, n + 2), 3 * t, (0, n + 3, 0)), ((4, n + 2), 3 * t + 1, (0, n + 4, 0)), ((4, n + 2), 3 * t + 2, (0, n + 5, 0)), ((35, 1), 6, (7, n + 6, 0)), ((5, n + 6), 100 * t, (0, n + 7, 0)), ((5, n + 6), 100 * t + 4, (0, n + 8, 0)), ((5, n + 6), 100 * t + 50, (0, n + 9, 0)), ((5, n + 6), 100 * t + 54, (0, n + 10, 0)), ((35, 1), 63, (36, n + 11, 0)), ((34, n + 11), k, (0, n + 12, 0))]
theorem b_mem {t : Nat} (ht : t < 4) : 100 * t ∈ [0, 50, 100, 150, 200, 250, 300, 350] ∧ 100 * t + 50 ∈ [0, 50, 100, 150, 200, 250, 300, 350] ∧ 100 * t + 4 ∈ [4, 54, 104, 154, 204, 254, 304, 354] ∧ 100 * t + 54 ∈ [4, 54, 104, 154, 204, 254, 304, 354] := by
  rcases (show t = 0 ∨ t = 1 ∨ t = 2 ∨ t = 3 by omega) with rfl | rfl | rfl | rfl <;> decide
theorem bOv_ok {t k : Nat} (ht : t < 4) (hk : k < 3) (hn : n = 2 + As.length) (hG : zH η zkdm D vwCl cy M Ξ g H) (hr : Ξ r = some 35) : zgv Ξ g (([0, (r : Int)] ++ As) ++ bTv g r t k) (bOv n t k) := by
  have p2 := rP2 hG hr
  have p5 := rP5 hG hr
  have p6 := rP6 hG hr
  have p9 := rP63 hG hr
  obtain ⟨m0, m5, m4, m9⟩ := b_mem ht
  have lt : ∀ j : Nat, j < 13 → j < (bTv g r t k).length := fun j hj => hj
  refine z_ovp (j := 0) (kd := 1) hn (lt 0 (by decide)) hr rfl p2 rfl ?_
  refine z_ovn (j := 0) (jj := 1) (q := (g r 2).toNat) (A := 0) (B := 600) hn (lt 0 (by decide)) (lt 1 (by decide)) (by show g r 2 = _; omega) p2.2 rfl (rBs hG hr ht) (by decide) (by decide) ?_
  refine z_ovp (j := 2) (kd := 4) hn (lt 2 (by decide)) hr rfl p5 rfl ?_
  refine z_ovn (j := 2) (jj := 3) (q := (g r 5).toNat) (A := 0) (B := 2) hn (lt 2 (by decide)) (lt 3 (by decide)) (by show g r 5 = _; omega) p5.2 rfl (rBm hG hr (k := 3 * t) (by omega)) (by decide) (by decide) ?_
  refine z_ovn (j := 2) (jj := 4) (q := (g r 5).toNat) (A := 0) (B := 2) hn (lt 2 (by decide)) (lt 4 (by decide)) (by show g r 5 = _; omega) p5.2 rfl (rBm hG hr (k := 3 * t + 1) (by omega)) (by decide) (by decide) ?_
  refine z_ovn (j := 2) (jj := 5) (q := (g r 5).toNat) (A := 0) (B := 2) hn (lt 2 (by decide)) (lt 5 (by decide)) (by show g r 5 = _; omega) p5.2 rfl (rBm hG hr (k := 3 * t + 2) (by omega)) (by decide) (by decide) ?_
  refine z_ovp (j := 6) (kd := 5) hn (lt 6 (by decide)) hr rfl p6 rfl ?_
  refine z_ovn (j := 6) (jj := 7) (q := (g r 6).toNat) (A := 0) (B := 8) hn (lt 6 (by decide)) (lt 7 (by decide)) (by show g r 6 = _; omega) p6.2 rfl (rBe0 hG hr m0) (by decide) (by decide) ?_
  refine z_ovn (j := 6) (jj := 8) (q := (g r 6).toNat) (A := 0) (B := 9) hn (lt 6 (by decide)) (lt 8 (by decide)) (by show g r 6 = _; omega) p6.2 rfl (rBe4 hG hr m4) (by decide) (by decide) ?_
  refine z_ovn (j := 6) (jj := 9) (q := (g r 6).toNat) (A := 0) (B := 8) hn (lt 6 (by decide)) (lt 9 (by decide)) (by show g r 6 = _; omega) p6.2 rfl (rBe0 hG hr m5) (by decide) (by decide) ?_
  refine z_ovn (j := 6) (jj := 10) (q := (g r 6).toNat) (A := 0) (B := 9) hn (lt 6 (by decide)) (lt 10 (by decide)) (by show g r 6 = _; omega) p6.2 rfl (rBe4 hG hr m9) (by decide) (by decide) ?_
  refine z_ovp (j := 11) (kd := 34) hn (lt 11 (by decide)) hr rfl p9 rfl ?_
  exact z_ovn (j := 11) (jj := 12) (q := (g r 63).toNat) (A := 0) (B := 1) hn (lt 11 (by decide)) (lt 12 (by decide)) (by show g r 63 = _; omega) p9.2 rfl (rBk hG hr hk) (by decide) (by decide) z_ov0
theorem bIv_ok {t k : Nat} (ht : t < 4) (hk : k < 3) {q : zIV} (hq : q.1 ≤ rKp g r k ∧ rKp g r k ≤ q.2) (hG : zH η zkdm D vwCl cy M Ξ g H) (hr : Ξ r = some 35) : zge (bTv g r t k) [(0, 2147483647), (0, 600), (0, 2147483647), (0, 2), (0, 2), (0, 2), (0, 2147483647), (0, 8), (0, 9), (0, 8), (0, 9), (0, 2147483647), q] := by
  have p2 := rP2 hG hr
  have p5 := rP5 hG hr
  have p6 := rP6 hG hr
  have p9 := rP63 hG hr
  have b2 : g r 2 ≤ 2147483647 := (zH_in hG hr zkm_35 (j := 2) (by decide +kernel)).2.2
  have b5 : g r 5 ≤ 2147483647 := (zH_in hG hr zkm_35 (j := 5) (by decide +kernel)).2.2
  have b6 : g r 6 ≤ 2147483647 := (zH_in hG hr zkm_35 (j := 6) (by decide +kernel)).2.2
  have b9 : g r 63 ≤ 2147483647 := (zH_in hG hr zkm_35 (j := 63) (by decide +kernel)).2.2
  obtain ⟨m0, m5, m4, m9⟩ := b_mem ht
  have s := rBs hG hr ht
  have n0 := rBm hG hr (k := 3 * t) (by omega)
  have n1 := rBm hG hr (k := 3 * t + 1) (by omega)
  have n2 := rBm hG hr (k := 3 * t + 2) (by omega)
  have e0 := rBe0 hG hr m0
  have e5 := rBe0 hG hr m5
  have e4 := rBe4 hG hr m4
  have e9 := rBe4 hG hr m9
  exact zg_c p2.1 b2 (zg_c s.1 s.2 (zg_c p5.1 b5 (zg_c n0.1 n0.2 (zg_c n1.1 n1.2 (zg_c n2.1 n2.2 (zg_c p6.1 b6 (zg_c e0.1 e0.2 (zg_c e4.1 e4.2 (zg_c e5.1 e5.2 (zg_c e9.1 e9.2 (zg_c p9.1 b9 (zg_c hq.1 hq.2 zg_n))))))))))))
/-- a kept image alone -/
theorem kOv_ok {k : Nat} (hk : k < 3) (hn : n = 2 + As.length) (hG : zH η zkdm D vwCl cy M Ξ g H) (hr : Ξ r = some 35) : zgv Ξ g (([0, (r : Int)] ++ As) ++ [g r 63, rKp g r k]) [((35, 1), 63, (36, n + 0, 0)), ((34, n + 0), k, (0, n + 1, 0))] := by
  have p9 := rP63 hG hr
  refine z_ovp (j := 0) (kd := 34) hn (by simp) hr rfl p9 rfl ?_
  exact z_ovn (j := 0) (jj := 1) (q := (g r 63).toNat) (A := 0) (B := 1) hn (by simp) (by simp) (by show g r 63 = _; omega) p9.2 rfl (rBk hG hr hk) (by decide) (by decide) z_ov0
/-- an image of the class -/
theorem iOv_ok {k : Nat} (hk : k < 3) (hn : n = 2 + As.length) (hH : zH η zkds D vwCl cy L Θ h H) (ha : Θ a = some 63) (him : 0 ≤ cIm h a k) : zgv Θ h (([0, (a : Int)] ++ As) ++ [h a 1, cIm h a k, h (cIm h a k).toNat 0, cIl h a k]) [((63, 1), 1, (64, n + 0, 0)), ((62, n + 0), k, (29 + k + 2, n + 1, 0)), ((29 + k, n + 1), 0, (3 + 2 * k + 2, n + 2, 0)), ((3 + 2 * k, n + 2), 1, (0, n + 3, 0))] := by
  have c1 := cP1 hH ha
  have c4 : Θ (cIm h a k).toNat = some (29 + k) := by
    rcases cP4 hH ha hk with q | q
    · omega
    · exact q.2
  have c5 := cP5 hH hk c4
  have c6 := cP6 hH hk c5.2
  refine z_ovp (j := 0) (kd := 62) hn (by simp) ha rfl c1 rfl ?_
  refine z_ovq (j := 0) (jj := 1) (kt := 29 + k) (q := (h a 1).toNat) hn (by simp) (by simp) (by show h a 1 = _; omega) c1.2 rfl (Or.inr ⟨him, c4⟩) rfl ?_
  refine z_ovq (j := 1) (jj := 2) (kt := 3 + 2 * k) (q := (cIm h a k).toNat) hn (by simp) (by simp) (by show cIm h a k = _; omega) c4 rfl (Or.inr c5) rfl ?_
  exact z_ovn (j := 2) (jj := 3) (q := (h (cIm h a k).toNat 0).toNat) (A := 0) (B := 600) hn (by simp) (by simp) (by show h (cIm h a k).toNat 0 = _; omega) c5.2 rfl c6 (by decide) (by decide) z_ov0
theorem iIv_ok {k : Nat} (hk : k < 3) (hH : zH η zkds D vwCl cy L Θ h H) (ha : Θ a = some 63) (him : 0 ≤ cIm h a k) : zge [h a 1, cIm h a k, h (cIm h a k).toNat 0, cIl h a k] [(0, 2147483647), (0, 2147483647), (0, 2147483647), (0, 600)] := by
  have c1 := cP1 hH ha
  have c4 : Θ (cIm h a k).toNat = some (29 + k) := by
    rcases cP4 hH ha hk with q | q
    · omega
    · exact q.2
  have c5 := cP5 hH hk c4
  have c6 := cP6 hH hk c5.2
  have b1 : h a 1 ≤ 2147483647 := (zH_in hH ha zkd_63 (j := 1) (by decide)).2.2
  have b4 : cIm h a k ≤ 2147483647 := by
    have := (zH_in hH c1.2 zkd_62 (j := k) hk).2.2
    rcases (show k = 0 ∨ k = 1 ∨ k = 2 by omega) with rfl | rfl | rfl <;> exact this
  have b5 : h (cIm h a k).toNat 0 ≤ 2147483647 := by
    rcases (show k = 0 ∨ k = 1 ∨ k = 2 by omega) with rfl | rfl | rfl
    · exact (zH_in hH c4 zkd_29 (j := 0) (by decide)).2.2
    · exact (zH_in hH c4 zkd_30 (j := 0) (by decide)).2.2
    · exact (zH_in hH c4 zkd_31 (j := 0) (by decide)).2.2
  exact zg_c c1.1 b1 (zg_c him b4 (zg_c c5.1 b5 (zg_c c6.1 c6.2 zg_n)))
theorem nOv_ok {k : Nat} (hk : k < 3) (hn : n = 2 + As.length) (hH : zH η zkds D vwCl cy L Θ h H) (ha : Θ a = some 63) : zgv Θ h (([0, (a : Int)] ++ As) ++ [h a 1, cIm h a k]) [((63, 1), 1, (64, n + 0, 0)), ((62, n + 0), k, (29 + k + 2, n + 1, 0))] := by
  have c1 := cP1 hH ha
  refine z_ovp (j := 0) (kd := 62) hn (by simp) ha rfl c1 rfl ?_
  exact z_ovq (j := 0) (jj := 1) (kt := 29 + k) (q := (h a 1).toNat) hn (by simp) (by simp) (by show h a 1 = _; omega) c1.2 rfl (cP4 hH ha hk) rfl z_ov0
end LOV
