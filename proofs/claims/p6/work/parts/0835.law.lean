variable {η ζ : zRn}
/-! kinds of cells by their names; bounds of what is told; what calls leave -/
section KND
variable {D : va_G} {cy : Nat → ClassId} {L : List Nat} {Θ : Nat → Option Nat} {h h' : Nat → Nat → Int} {H : Heap}
theorem zkK : ∀ k : Fin 64, zkds[k.1]? = some (zkds.getD k.1 (0, 0, 0, [])) := fun k => by
  rw [List.getD_eq_getElem?_getD, List.getElem?_eq_getElem (show k.1 < zkds.length from k.2)]
  rfl
theorem kst {a kk j t v : Nat} {B : Int} (hH : zH η zkds D vwCl cy L Θ h H) (ha : Θ a = some kk) (hk : kk < 64) (hj : j < (zkds.getD kk (0, 0, 0, [])).2.2.1) (ht : zty (zkds.getD kk (0, 0, 0, [])) j = (t + 2, 0, B)) (hv : h a j = (v : Int)) : Θ v = some t := by
  have := (z_ptr hH ha (zkK ⟨kk, hk⟩) hj ht).2
  rw [hv, Int.toNat_natCast] at this
  exact this
theorem knm {a kk j : Nat} {A B : Int} (hH : zH η zkds D vwCl cy L Θ h H) (ha : Θ a = some kk) (hk : kk < 64) (hj : j < (zkds.getD kk (0, 0, 0, [])).2.2.1) (ht : zty (zkds.getD kk (0, 0, 0, [])) j = (0, A, B)) : A ≤ h a j ∧ h a j ≤ B := z_num hH ha (zkK ⟨kk, hk⟩) hj ht
def cKLb : List (Nat × Nat) := [(6, 24), (7, 25), (8, 26), (9, 27), (20, 15), (21, 8), (22, 9), (23, 10), (24, 11), (25, 12), (26, 13), (27, 14), (40, 18), (41, 16), (42, 17), (60, 23), (61, 19), (62, 20), (63, 21), (64, 22), (30, 15), (31, 8), (32, 9), (33, 10), (34, 11), (35, 12), (36, 13), (37, 14), (50, 18), (51, 16), (52, 17), (70, 23), (71, 19), (72, 20), (73, 21), (74, 22)]
theorem cKb {B kt : Nat} (hH : zH η zkds D vwCl cy L Θ h H) (hP : cPb B h) (ht : Θ (B + 3) = some kt) (hk : 28 ≤ kt ∧ kt ≤ 31) : Θ (B + 4) = some (2 * (kt - 28) + 1) ∧ Θ (B + 5) = some (2 * (kt - 28)) ∧ ∀ p ∈ cKLb, Θ (B + p.1) = some p.2 := by
  have top : (Θ (B + 4) = some (2 * (kt - 28) + 1) ∧ Θ (B + 5) = some (2 * (kt - 28))) ∧ Θ (B + 6) = some 24 ∧ Θ (B + 7) = some 25 ∧ Θ (B + 8) = some 26 ∧ Θ (B + 9) = some 27 := by
    rcases (show kt = 28 ∨ kt = 29 ∨ kt = 30 ∨ kt = 31 by omega) with rfl | rfl | rfl | rfl
    · have k4 : Θ (B + 4) = some 1 := kst (B := 2147483647) (j := 0) hH ht (by decide) (by decide +kernel) (by decide +kernel) (hP.p (a := 3) (j := 0) (v := 4) (by decide))
      exact ⟨⟨k4, kst (B := 2147483647) (j := 0) hH k4 (by decide) (by decide +kernel) (by decide +kernel) (hP.p (a := 4) (j := 0) (v := 5) (by decide))⟩, kst (B := 2147483647) (j := 1) hH ht (by decide) (by decide +kernel) (by decide +kernel) (hP.p (a := 3) (j := 1) (v := 6) (by decide)), kst (B := 2147483647) (j := 2) hH ht (by decide) (by decide +kernel) (by decide +kernel) (hP.p (a := 3) (j := 2) (v := 7) (by decide)), kst (B := 2147483647) (j := 3) hH ht (by decide) (by decide +kernel) (by decide +kernel) (hP.p (a := 3) (j := 3) (v := 8) (by decide)), kst (B := 2147483647) (j := 4) hH ht (by decide) (by decide +kernel) (by decide +kernel) (hP.p (a := 3) (j := 4) (v := 9) (by decide))⟩
    · have k4 : Θ (B + 4) = some 3 := kst (B := 2147483647) (j := 0) hH ht (by decide) (by decide +kernel) (by decide +kernel) (hP.p (a := 3) (j := 0) (v := 4) (by decide))
      exact ⟨⟨k4, kst (B := 2147483647) (j := 0) hH k4 (by decide) (by decide +kernel) (by decide +kernel) (hP.p (a := 4) (j := 0) (v := 5) (by decide))⟩, kst (B := 2147483647) (j := 1) hH ht (by decide) (by decide +kernel) (by decide +kernel) (hP.p (a := 3) (j := 1) (v := 6) (by decide)), kst (B := 2147483647) (j := 2) hH ht (by decide) (by decide +kernel) (by decide +kernel) (hP.p (a := 3) (j := 2) (v := 7) (by decide)), kst (B := 2147483647) (j := 3) hH ht (by decide) (by decide +kernel) (by decide +kernel) (hP.p (a := 3) (j := 3) (v := 8) (by decide)), kst (B := 2147483647) (j := 4) hH ht (by decide) (by decide +kernel) (by decide +kernel) (hP.p (a := 3) (j := 4) (v := 9) (by decide))⟩
    · have k4 : Θ (B + 4) = some 5 := kst (B := 2147483647) (j := 0) hH ht (by decide) (by decide +kernel) (by decide +kernel) (hP.p (a := 3) (j := 0) (v := 4) (by decide))
      exact ⟨⟨k4, kst (B := 2147483647) (j := 0) hH k4 (by decide) (by decide +kernel) (by decide +kernel) (hP.p (a := 4) (j := 0) (v := 5) (by decide))⟩, kst (B := 2147483647) (j := 1) hH ht (by decide) (by decide +kernel) (by decide +kernel) (hP.p (a := 3) (j := 1) (v := 6) (by decide)), kst (B := 2147483647) (j := 2) hH ht (by decide) (by decide +kernel) (by decide +kernel) (hP.p (a := 3) (j := 2) (v := 7) (by decide)), kst (B := 2147483647) (j := 3) hH ht (by decide) (by decide +kernel) (by decide +kernel) (hP.p (a := 3) (j := 3) (v := 8) (by decide)), kst (B := 2147483647) (j := 4) hH ht (by decide) (by decide +kernel) (by decide +kernel) (hP.p (a := 3) (j := 4) (v := 9) (by decide))⟩
    · have k4 : Θ (B + 4) = some 7 := kst (B := 2147483647) (j := 0) hH ht (by decide) (by decide +kernel) (by decide +kernel) (hP.p (a := 3) (j := 0) (v := 4) (by decide))
      exact ⟨⟨k4, kst (B := 2147483647) (j := 0) hH k4 (by decide) (by decide +kernel) (by decide +kernel) (hP.p (a := 4) (j := 0) (v := 5) (by decide))⟩, kst (B := 2147483647) (j := 1) hH ht (by decide) (by decide +kernel) (by decide +kernel) (hP.p (a := 3) (j := 1) (v := 6) (by decide)), kst (B := 2147483647) (j := 2) hH ht (by decide) (by decide +kernel) (by decide +kernel) (hP.p (a := 3) (j := 2) (v := 7) (by decide)), kst (B := 2147483647) (j := 3) hH ht (by decide) (by decide +kernel) (by decide +kernel) (hP.p (a := 3) (j := 3) (v := 8) (by decide)), kst (B := 2147483647) (j := 4) hH ht (by decide) (by decide +kernel) (by decide +kernel) (hP.p (a := 3) (j := 4) (v := 9) (by decide))⟩
  obtain ⟨k45, k6, k7, k8, k9⟩ := top
  refine ⟨k45.1, k45.2, fun p hp => ?_⟩
  have k20 : Θ (B + 20) = some 15 := kst (B := 2147483647) (j := 0) hH k7 (by decide) (by decide +kernel) (by decide +kernel) (hP.p (a := 7) (j := 0) (v := 20) (by decide))
  have k21 : Θ (B + 21) = some 8 := kst (B := 2147483647) (j := 5) hH k20 (by decide) (by decide +kernel) (by decide +kernel) (hP.p (a := 20) (j := 5) (v := 21) (by decide))
  have k22 : Θ (B + 22) = some 9 := kst (B := 2147483647) (j := 7) hH k20 (by decide) (by decide +kernel) (by decide +kernel) (hP.p (a := 20) (j := 7) (v := 22) (by decide))
  have k23 : Θ (B + 23) = some 10 := kst (B := 2147483647) (j := 8) hH k20 (by decide) (by decide +kernel) (by decide +kernel) (hP.p (a := 20) (j := 8) (v := 23) (by decide))
  have k24 : Θ (B + 24) = some 11 := kst (B := 2147483647) (j := 9) hH k20 (by decide) (by decide +kernel) (by decide +kernel) (hP.p (a := 20) (j := 9) (v := 24) (by decide))
  have k25 : Θ (B + 25) = some 12 := kst (B := 2147483647) (j := 11) hH k20 (by decide) (by decide +kernel) (by decide +kernel) (hP.p (a := 20) (j := 11) (v := 25) (by decide))
  have k26 : Θ (B + 26) = some 13 := kst (B := 2147483647) (j := 12) hH k20 (by decide) (by decide +kernel) (by decide +kernel) (hP.p (a := 20) (j := 12) (v := 26) (by decide))
  have k27 : Θ (B + 27) = some 14 := kst (B := 2147483647) (j := 13) hH k20 (by decide) (by decide +kernel) (by decide +kernel) (hP.p (a := 20) (j := 13) (v := 27) (by decide))
  have k40 : Θ (B + 40) = some 18 := kst (B := 2147483647) (j := 0) hH k8 (by decide) (by decide +kernel) (by decide +kernel) (hP.p (a := 8) (j := 0) (v := 40) (by decide))
  have k41 : Θ (B + 41) = some 16 := kst (B := 2147483647) (j := 1) hH k40 (by decide) (by decide +kernel) (by decide +kernel) (hP.p (a := 40) (j := 1) (v := 41) (by decide))
  have k42 : Θ (B + 42) = some 17 := kst (B := 2147483647) (j := 2) hH k40 (by decide) (by decide +kernel) (by decide +kernel) (hP.p (a := 40) (j := 2) (v := 42) (by decide))
  have k60 : Θ (B + 60) = some 23 := kst (B := 2147483647) (j := 0) hH k9 (by decide) (by decide +kernel) (by decide +kernel) (hP.p (a := 9) (j := 0) (v := 60) (by decide))
  have k61 : Θ (B + 61) = some 19 := kst (B := 2147483647) (j := 1) hH k60 (by decide) (by decide +kernel) (by decide +kernel) (hP.p (a := 60) (j := 1) (v := 61) (by decide))
  have k62 : Θ (B + 62) = some 20 := kst (B := 2147483647) (j := 2) hH k60 (by decide) (by decide +kernel) (by decide +kernel) (hP.p (a := 60) (j := 2) (v := 62) (by decide))
  have k63 : Θ (B + 63) = some 21 := kst (B := 2147483647) (j := 4) hH k60 (by decide) (by decide +kernel) (by decide +kernel) (hP.p (a := 60) (j := 4) (v := 63) (by decide))
  have k64 : Θ (B + 64) = some 22 := kst (B := 2147483647) (j := 5) hH k60 (by decide) (by decide +kernel) (by decide +kernel) (hP.p (a := 60) (j := 5) (v := 64) (by decide))
  have k30 : Θ (B + 30) = some 15 := kst (B := 2147483647) (j := 1) hH k7 (by decide) (by decide +kernel) (by decide +kernel) (hP.p (a := 7) (j := 1) (v := 30) (by decide))
  have k31 : Θ (B + 31) = some 8 := kst (B := 2147483647) (j := 5) hH k30 (by decide) (by decide +kernel) (by decide +kernel) (hP.p (a := 30) (j := 5) (v := 31) (by decide))
  have k32 : Θ (B + 32) = some 9 := kst (B := 2147483647) (j := 7) hH k30 (by decide) (by decide +kernel) (by decide +kernel) (hP.p (a := 30) (j := 7) (v := 32) (by decide))
  have k33 : Θ (B + 33) = some 10 := kst (B := 2147483647) (j := 8) hH k30 (by decide) (by decide +kernel) (by decide +kernel) (hP.p (a := 30) (j := 8) (v := 33) (by decide))
  have k34 : Θ (B + 34) = some 11 := kst (B := 2147483647) (j := 9) hH k30 (by decide) (by decide +kernel) (by decide +kernel) (hP.p (a := 30) (j := 9) (v := 34) (by decide))
  have k35 : Θ (B + 35) = some 12 := kst (B := 2147483647) (j := 11) hH k30 (by decide) (by decide +kernel) (by decide +kernel) (hP.p (a := 30) (j := 11) (v := 35) (by decide))
  have k36 : Θ (B + 36) = some 13 := kst (B := 2147483647) (j := 12) hH k30 (by decide) (by decide +kernel) (by decide +kernel) (hP.p (a := 30) (j := 12) (v := 36) (by decide))
  have k37 : Θ (B + 37) = some 14 := kst (B := 2147483647) (j := 13) hH k30 (by decide) (by decide +kernel) (by decide +kernel) (hP.p (a := 30) (j := 13) (v := 37) (by decide))
  have k50 : Θ (B + 50) = some 18 := kst (B := 2147483647) (j := 1) hH k8 (by decide) (by decide +kernel) (by decide +kernel) (hP.p (a := 8) (j := 1) (v := 50) (by decide))
  have k51 : Θ (B + 51) = some 16 := kst (B := 2147483647) (j := 1) hH k50 (by decide) (by decide +kernel) (by decide +kernel) (hP.p (a := 50) (j := 1) (v := 51) (by decide))
  have k52 : Θ (B + 52) = some 17 := kst (B := 2147483647) (j := 2) hH k50 (by decide) (by decide +kernel) (by decide +kernel) (hP.p (a := 50) (j := 2) (v := 52) (by decide))
  have k70 : Θ (B + 70) = some 23 := kst (B := 2147483647) (j := 1) hH k9 (by decide) (by decide +kernel) (by decide +kernel) (hP.p (a := 9) (j := 1) (v := 70) (by decide))
  have k71 : Θ (B + 71) = some 19 := kst (B := 2147483647) (j := 1) hH k70 (by decide) (by decide +kernel) (by decide +kernel) (hP.p (a := 70) (j := 1) (v := 71) (by decide))
  have k72 : Θ (B + 72) = some 20 := kst (B := 2147483647) (j := 2) hH k70 (by decide) (by decide +kernel) (by decide +kernel) (hP.p (a := 70) (j := 2) (v := 72) (by decide))
  have k73 : Θ (B + 73) = some 21 := kst (B := 2147483647) (j := 4) hH k70 (by decide) (by decide +kernel) (by decide +kernel) (hP.p (a := 70) (j := 4) (v := 73) (by decide))
  have k74 : Θ (B + 74) = some 22 := kst (B := 2147483647) (j := 5) hH k70 (by decide) (by decide +kernel) (by decide +kernel) (hP.p (a := 70) (j := 5) (v := 74) (by decide))
  simp only [cKLb, List.mem_cons, List.not_mem_nil, or_false] at hp
  rcases hp with rfl | rfl | rfl | rfl | rfl | rfl | rfl | rfl | rfl | rfl | rfl | rfl | rfl | rfl | rfl | rfl | rfl | rfl | rfl | rfl | rfl | rfl | rfl | rfl | rfl | rfl | rfl | rfl | rfl | rfl | rfl | rfl | rfl | rfl | rfl | rfl
  · exact k6
  · exact k7
  · exact k8
  · exact k9
  · exact k20
  · exact k21
  · exact k22
  · exact k23
  · exact k24
  · exact k25
  · exact k26
  · exact k27
  · exact k40
  · exact k41
  · exact k42
  · exact k60
  · exact k61
  · exact k62
  · exact k63
  · exact k64
  · exact k30
  · exact k31
  · exact k32
  · exact k33
  · exact k34
  · exact k35
  · exact k36
  · exact k37
  · exact k50
  · exact k51
  · exact k52
  · exact k70
  · exact k71
  · exact k72
  · exact k73
  · exact k74
theorem cBb_of {B kt : Nat} (hH : zH η zkds D vwCl cy L Θ h H) (hP : cPb B h) (ht : Θ (B + 3) = some kt) (hk : 28 ≤ kt ∧ kt ≤ 31) : cBb B h := by
  obtain ⟨k4, -, kl⟩ := cKb hH hP ht hk
  refine ⟨?_, fun i hi => ?_, fun i hi => ?_, fun i hi => ?_⟩
  · rcases (show kt = 28 ∨ kt = 29 ∨ kt = 30 ∨ kt = 31 by omega) with rfl | rfl | rfl | rfl
    · exact knm hH k4 (by decide) (by decide +kernel) (by decide +kernel)
    · exact knm hH k4 (by decide) (by decide +kernel) (by decide +kernel)
    · exact knm hH k4 (by decide) (by decide +kernel) (by decide +kernel)
    · exact knm hH k4 (by decide) (by decide +kernel) (by decide +kernel)
  · have k : Θ (B + 20 + 10 * i) = some 15 := by
      rcases (show i = 0 ∨ i = 1 by omega) with rfl | rfl
      · exact kl (20, 15) (by decide)
      · exact kl (30, 15) (by decide)
    exact ⟨knm hH k (by decide) (by decide +kernel) (by decide +kernel), knm hH k (by decide) (by decide +kernel) (by decide +kernel), knm hH k (by decide) (by decide +kernel) (by decide +kernel), knm hH k (by decide) (by decide +kernel) (by decide +kernel), knm hH k (by decide) (by decide +kernel) (by decide +kernel)⟩
  · have k : Θ (B + 40 + 10 * i) = some 18 := by
      rcases (show i = 0 ∨ i = 1 by omega) with rfl | rfl
      · exact kl (40, 18) (by decide)
      · exact kl (50, 18) (by decide)
    exact knm hH k (by decide) (by decide +kernel) (by decide +kernel)
  · have k : Θ (B + 60 + 10 * i) = some 23 := by
      rcases (show i = 0 ∨ i = 1 by omega) with rfl | rfl
      · exact kl (60, 23) (by decide)
      · exact kl (70, 23) (by decide)
    exact ⟨knm hH k (by decide) (by decide +kernel) (by decide +kernel), knm hH k (by decide) (by decide +kernel) (by decide +kernel)⟩
/-- the kinds that hold what is told, and the pointers -/
def avK : List Nat := [0, 1, 2, 3, 4, 5, 6, 7, 16, 17, 18, 19, 20, 21, 22, 23, 24, 25, 26, 27, 28, 29, 30, 31, 34, 62, 63]
def avS : List Nat := [8, 9, 10, 11, 12, 13, 14, 15]
def avP : List Nat := [5, 7, 8, 9, 11, 12, 13]
def efC (eff : List (Nat × Nat × Nat)) : Bool := eff.all (fun e => !(avK.contains e.1)) && avP.all (fun j => !(zinE eff 15 j j))
def efS (eff : List (Nat × Nat × Nat)) : Bool := eff.all (fun e => !(avS.contains e.1))
theorem ef_no {eff : List (Nat × Nat × Nat)} {ks : List Nat} {k j : Nat} (h : eff.all (fun e => !(ks.contains e.1)) = true) (hk : ks.contains k = true) : zinE eff k j j = false := by
  unfold zinE
  rw [List.any_eq_false]
  intro e he hc
  simp only [Bool.and_eq_true, decide_eq_true_eq] at hc
  have := List.all_eq_true.mp h e he
  rw [hc.1.1, hk] at this
  cases this
theorem ef_k {eff : List (Nat × Nat × Nat)} {k j : Nat} (h : efC eff = true) (hk : avK.contains k = true) : zinE eff k j j = false := by
  unfold efC at h
  rw [Bool.and_eq_true] at h
  exact ef_no h.1 hk
theorem ef_p {eff : List (Nat × Nat × Nat)} {j : Nat} (h : efC eff = true) (hj : j ∈ avP) : zinE eff 15 j j = false := by
  unfold efC at h
  rw [Bool.and_eq_true] at h
  have := List.all_eq_true.mp h.2 j hj
  simpa using this
theorem cD.at2 {b : Nat} {t : Nat → Int} {h h2 : yH} (hf : ∀ a j, b ≤ a → a ≤ b + 2 → h2 a j = h a j) (hs : cD b t h) : cD b t h2 := by
  obtain ⟨h0, h1⟩ := hs
  refine ⟨by rw [hf _ _ (by omega) (by omega)]; exact h0, fun k hk => ?_⟩
  rw [hf _ _ (by omega) (by omega), hf (b + 2) (3 * k) (by omega) (by omega), hf (b + 2) (3 * k + 1) (by omega) (by omega), hf (b + 2) (3 * k + 2) (by omega) (by omega)]
  exact h1 k hk
theorem cQ.at2 {b : Nat} {t : Nat → Int} {h h2 : yH} (hf : ∀ a j, b ≤ a → a ≤ b + 4 → h2 a j = h a j) (hs : cQ b t h) : cQ b t h2 := by
  obtain ⟨h0, h3, h1, h2'⟩ := hs
  refine ⟨by rw [hf _ _ (by omega) (by omega)]; exact h0, by rw [hf _ _ (by omega) (by omega)]; exact h3, fun k hk => ?_, fun k hk => ?_⟩
  · rw [hf _ _ (by omega) (by omega), hf (b + 2) _ (by omega) (by omega)]
    exact h1 k hk
  · rw [hf _ _ (by omega) (by omega), hf (b + 4) _ (by omega) (by omega)]
    exact h2' k hk
theorem RB.f2 {F : Prop} {B κ : Nat} {h h2 g : yH} (R : RB F B κ h g) (f35 : h2 (B + 3) 5 = h (B + 3) 5) (f36 : h2 (B + 3) 6 = h (B + 3) 6) (f41 : h2 (B + 4) 1 = h (B + 4) 1) (f5 : ∀ j, h2 (B + 5) j = h (B + 5) j) (f6 : ∀ j, h2 (B + 6) j = h (B + 6) j) (fS : F → ∀ i, i < 2 → ∀ a j, B + 20 + 10 * i ≤ a → a ≤ B + 20 + 10 * i + 7 → h2 a j = h a j) (fD : ∀ i, i < 2 → ∀ a j, B + 40 + 10 * i ≤ a → a ≤ B + 40 + 10 * i + 2 → h2 a j = h a j) (fQ : ∀ i, i < 2 → ∀ a j, B + 60 + 10 * i ≤ a → a ≤ B + 60 + 10 * i + 4 → h2 a j = h a j) : RB F B κ h2 g := by
  obtain ⟨r1, r2, r3, r4, r5, r6, r7, r8⟩ := R
  refine ⟨by rw [f41]; exact r1, fun i hi => ?_, fun j hj => by rw [f6]; exact r3 j hj, by rw [f35]; exact r4, by rw [f36]; exact r5, fun i hi => ?_, fun i hi => ?_, fun i hi => ?_⟩
  · rw [f41] at hi
    rw [f5]
    exact r2 i hi
  · obtain ⟨t, a1, a2, a3⟩ := r6 i hi
    exact ⟨t, fun f => (a1 f).at (fS f i hi), a2, a3⟩
  · obtain ⟨t, a1, a2, a3⟩ := r7 i hi
    exact ⟨t, a1.at2 (fD i hi), a2, a3⟩
  · obtain ⟨t, a1, a2, a3⟩ := r8 i hi
    exact ⟨t, a1.at2 (fQ i hi), a2, a3⟩
theorem RB.cf {F : Prop} {B κ kt : Nat} {g : yH} {eff : List (Nat × Nat × Nat)} (hH : zH η zkds D vwCl cy L Θ h H) (hP : cPb B h) (ht : Θ (B + 3) = some kt) (hk : 28 ≤ kt ∧ kt ≤ 31) (oX : ∀ a k j, Θ a = some k → zinE eff k j j = false → h' a j = h a j) (he : efC eff = true) (hs : F → efS eff = true) (R : RB F B κ h g) : RB F B κ h' g ∧ cPb B h' := by
  obtain ⟨k4, k5, kl⟩ := cKb hH hP ht hk
  have kt' : avK.contains kt = true ∧ avK.contains (2 * (kt - 28) + 1) = true ∧ avK.contains (2 * (kt - 28)) = true := by
    rcases (show kt = 28 ∨ kt = 29 ∨ kt = 30 ∨ kt = 31 by omega) with rfl | rfl | rfl | rfl <;> decide
  refine ⟨R.f2 (oX _ _ _ ht (ef_k he kt'.1)) (oX _ _ _ ht (ef_k he kt'.1)) (oX _ _ _ k4 (ef_k he kt'.2.1)) (fun j => oX _ _ _ k5 (ef_k he kt'.2.2)) (fun j => oX _ _ _ (kl (6, 24) (by decide)) (ef_k he (by decide))) (fun f i hi a j w1 w2 => ?_) (fun i hi a j w1 w2 => ?_) (fun i hi a j w1 w2 => ?_), hP.fr (fun p hp => ?_)⟩
  · have key : ∀ i : Fin 2, ∀ r : Fin 8, ∃ q ∈ cKLb, q.1 = 20 + 10 * i.val + r.val ∧ avS.contains q.2 = true := by decide +kernel
    obtain ⟨q, q1, q2, q3⟩ := key ⟨i, hi⟩ ⟨a - (B + 20 + 10 * i), by omega⟩
    have q4 := kl q q1
    rw [q2, show B + (20 + 10 * i + (a - (B + 20 + 10 * i))) = a by omega] at q4
    exact oX _ _ _ q4 (ef_no (hs f) q3)
  · have key : ∀ i : Fin 2, ∀ r : Fin 3, ∃ q ∈ cKLb, q.1 = 40 + 10 * i.val + r.val ∧ avK.contains q.2 = true := by decide +kernel
    obtain ⟨q, q1, q2, q3⟩ := key ⟨i, hi⟩ ⟨a - (B + 40 + 10 * i), by omega⟩
    have q4 := kl q q1
    rw [q2, show B + (40 + 10 * i + (a - (B + 40 + 10 * i))) = a by omega] at q4
    exact oX _ _ _ q4 (ef_k he q3)
  · have key : ∀ i : Fin 2, ∀ r : Fin 5, ∃ q ∈ cKLb, q.1 = 60 + 10 * i.val + r.val ∧ avK.contains q.2 = true := by decide +kernel
    obtain ⟨q, q1, q2, q3⟩ := key ⟨i, hi⟩ ⟨a - (B + 60 + 10 * i), by omega⟩
    have q4 := kl q q1
    rw [q2, show B + (60 + 10 * i + (a - (B + 60 + 10 * i))) = a by omega] at q4
    exact oX _ _ _ q4 (ef_k he q3)
  · have key : ∀ p ∈ cPLb, p.1 = 3 ∨ p.1 = 4 ∨ ∃ q ∈ cKLb, q.1 = p.1 ∧ (avK.contains q.2 = true ∨ (q.2 = 15 ∧ p.2.1 ∈ avP)) := by decide +kernel
    rcases key p hp with w | w | ⟨q, q1, q2, q3⟩
    · rw [w]
      exact oX _ _ _ ht (ef_k he kt'.1)
    · rw [w]
      exact oX _ _ _ k4 (ef_k he kt'.2.1)
    · have q4 := kl q q1
      rw [q2] at q4
      rcases q3 with q3 | ⟨q5, q6⟩
      · exact oX _ _ _ q4 (ef_k he q3)
      · rw [q5] at q4
        exact oX _ _ _ q4 (ef_p he q6)
theorem cK_im {F : Prop} {k : Nat} {g : yH} (hH : zH η zkds D vwCl cy L Θ h H) (h1 : Θ 1 = some 63) (hP : cP h) (hk : k < 3) (h2 : h 2 k = ((1000 * (k + 1) + 3 : Nat) : Int)) : Θ (1000 * (k + 1) + 3) = some (29 + k) := by
  have k2 : Θ 2 = some 62 := kst (B := 2147483647) (j := 1) hH h1 (by decide) (by decide +kernel) (by decide +kernel) (hP.p (a := 1) (j := 1) (v := 2) (by decide))
  have key : h 2 k = -1 ∨ (0 ≤ h 2 k ∧ Θ (h 2 k).toNat = some (29 + k)) := by
    rcases (show k = 0 ∨ k = 1 ∨ k = 2 by omega) with rfl | rfl | rfl
    · exact z_ptrn (A := -1) (B := 2147483647) hH k2 (zkK ⟨62, by decide⟩) (by decide +kernel) (by decide +kernel)
    · exact z_ptrn (A := -1) (B := 2147483647) hH k2 (zkK ⟨62, by decide⟩) (by decide +kernel) (by decide +kernel)
    · exact z_ptrn (A := -1) (B := 2147483647) hH k2 (zkK ⟨62, by decide⟩) (by decide +kernel) (by decide +kernel)
  rcases key with w | ⟨-, w⟩
  · rw [h2] at w
    omega
  · rw [h2, Int.toNat_natCast] at w
    exact w
theorem cK_0 (hH : zH η zkds D vwCl cy L Θ h H) (h1 : Θ 1 = some 63) (hP : cP h) : Θ 2 = some 62 ∧ Θ (0 + 3) = some 28 ∧ Θ 80 = some 34 ∧ Θ 90 = some 15 ∧ Θ 100 = some 18 ∧ Θ 110 = some 23 := by
  have k80 : Θ 80 = some 34 := kst (B := 2147483647) (j := 2) hH h1 (by decide) (by decide +kernel) (by decide +kernel) (hP.p (a := 1) (j := 2) (v := 80) (by decide))
  exact ⟨kst (B := 2147483647) (j := 1) hH h1 (by decide) (by decide +kernel) (by decide +kernel) (hP.p (a := 1) (j := 1) (v := 2) (by decide)), kst (B := 2147483647) (j := 0) hH h1 (by decide) (by decide +kernel) (by decide +kernel) (hP.p (a := 1) (j := 0) (v := 3) (by decide)), k80, kst (B := 2147483647) (j := 0) hH k80 (by decide) (by decide +kernel) (by decide +kernel) (hP.p (a := 80) (j := 0) (v := 90) (by decide)), kst (B := 2147483647) (j := 1) hH k80 (by decide) (by decide +kernel) (by decide +kernel) (hP.p (a := 80) (j := 1) (v := 100) (by decide)), kst (B := 2147483647) (j := 2) hH k80 (by decide) (by decide +kernel) (by decide +kernel) (hP.p (a := 80) (j := 2) (v := 110) (by decide))⟩
/-- the length of the tape, of the images, the numbers told -/
theorem cT_b {F : Prop} {g : yH} (hH : zH η zkds D vwCl cy L Θ h H) (h1 : Θ 1 = some 63) (R : RR F h g) : cBb 0 h ∧ (0 ≤ h 4 1 ∧ h 4 1 ≤ 600) ∧ lnI h ∧ ∀ k, k < 3 → h 2 k ≠ -1 → cBb (1000 * (k + 1)) h ∧ cPb (1000 * (k + 1)) h := by
  obtain ⟨hP, -, -, RI0⟩ := R
  obtain ⟨-, k3, -⟩ := cK_0 hH h1 hP
  have b0 := cBb_of hH hP.b k3 (by omega)
  have im : ∀ k, k < 3 → h 2 k ≠ -1 → cBb (1000 * (k + 1)) h ∧ cPb (1000 * (k + 1)) h := fun k hk w => by
    rcases RI0 k hk with q | ⟨-, q2, q3, -⟩
    · exact absurd q.2 w
    · exact ⟨cBb_of hH q3 (cK_im (F := F) (g := g) hH h1 hP hk q2) (by omega), q3⟩
  refine ⟨b0, b0.1, fun k hk => ?_, im⟩
  by_cases w : h 2 k = -1
  · exact Or.inr w
  · exact Or.inl ((im k hk w).1.1).2
/-- a call of the class that leaves what is told -/
theorem RR.cf {F : Prop} {g : yH} {eff : List (Nat × Nat × Nat)} (hH : zH η zkds D vwCl cy L Θ h H) (h1 : Θ 1 = some 63) (oX : ∀ a k j, Θ a = some k → zinE eff k j j = false → h' a j = h a j) (he : efC eff = true) (hs : F → efS eff = true) (R : RR F h g) : RR F h' g ∧ ∀ k, h' 2 k = h 2 k := by
  obtain ⟨hP, gP, R0, RI0⟩ := R
  obtain ⟨k2, k3, k80, k90, k100, k110⟩ := cK_0 hH h1 hP
  obtain ⟨k4, k5, kl⟩ := cKb hH hP.b k3 (by omega)
  have e2 : ∀ k, h' 2 k = h 2 k := fun k => oX _ _ _ k2 (ef_k he (by decide))
  obtain ⟨R1, P1⟩ := RB.cf hH hP.b k3 (by omega) oX he hs R0
  refine ⟨⟨fun p hp => ?_, gP, R1, fun k hk => ?_⟩, e2⟩
  · rcases cPL_t p hp with w | ⟨q, q1, q2, q3, q4⟩
    · have key : ∀ p ∈ cPL, (p.1 < 3 ∨ 80 ≤ p.1) → p.1 = 1 ∨ p.1 = 80 ∨ (p.1 = 90 ∧ p.2.1 ∈ avP) ∨ p.1 = 100 ∨ p.1 = 110 := by decide +kernel
      rw [← hP p hp]
      rcases key p hp w with c | c | c | c | c
      · rw [c]
        exact oX _ _ _ h1 (ef_k he (by decide))
      · rw [c]
        exact oX _ _ _ k80 (ef_k he (by decide))
      · rw [c.1]
        exact oX _ _ _ k90 (ef_p he c.2)
      · rw [c]
        exact oX _ _ _ k100 (ef_k he (by decide))
      · rw [c]
        exact oX _ _ _ k110 (ef_k he (by decide))
    · have := P1 q q1
      rw [Nat.zero_add, Nat.zero_add, q2, q3, q4] at this
      exact this
  · rw [e2]
    rcases RI0 k hk with q | ⟨q1, q2, q3, q4⟩
    · exact Or.inl q
    · obtain ⟨R2, P2⟩ := RB.cf hH q3 (cK_im (F := F) (g := g) hH h1 hP hk q2) (by omega) oX he hs q4
      exact Or.inr ⟨q1, q2, P2, R2⟩
def efW (eff : List (Nat × Nat × Nat)) : Bool := !(zinE eff 47 3 3)
theorem RW.cf {F : Prop} {g : yH} {eff : List (Nat × Nat × Nat)} (hH : zH η zkds D vwCl cy L Θ h H) (h1 : Θ 1 = some 63) (oX : ∀ a k j, Θ a = some k → zinE eff k j j = false → h' a j = h a j) (he : efC eff = true) (hs : F → efS eff = true ∧ efW eff = true) (R : RW F h g) : RW F h' g ∧ ∀ k, h' 2 k = h 2 k := by
  obtain ⟨R1, e2⟩ := RR.cf hH h1 oX he (fun f => (hs f).1) R.1
  refine ⟨⟨R1, fun f => ?_⟩, e2⟩
  refine (R.2 f).c ?_
  obtain ⟨w1, w2, w3⟩ := (R.2 f).p
  have k150 : Θ 150 = some 47 := kst (v := 150) (B := 2147483647) (j := 4) hH h1 (by decide) (by decide +kernel) (by decide +kernel) (show h 1 4 = ((150 : Nat) : Int) from w1)
  have k160 : Θ 160 = some 15 := kst (v := 160) (B := 2147483647) (j := 3) hH k150 (by decide) (by decide +kernel) (by decide +kernel) (show h 150 3 = ((160 : Nat) : Int) from w2)
  have hw := (hs f).2
  unfold efW at hw
  refine ⟨by rw [oX _ _ _ h1 (ef_k he (by decide))]; exact w1, by rw [oX _ _ _ k150 (by simpa using hw)]; exact w2, w3.fr (fun j hj => oX _ _ _ k160 (ef_p he (by
    rcases hj with rfl | rfl | rfl | rfl | rfl | rfl | rfl <;> decide)))⟩
end KND
section KNR
variable {D : va_G} {cy : Nat → ClassId} {M : List Nat} {Ξ : Nat → Option Nat} {g g' : Nat → Nat → Int} {H : Heap}
theorem zkR : ∀ k : Fin 36, zkdm[k.1]? = some (zkdm.getD k.1 (0, 0, 0, [])) := fun k => by
  rw [List.getD_eq_getElem?_getD, List.getElem?_eq_getElem (show k.1 < zkdm.length from k.2)]
  rfl
/-- the reference's names are its kinds -/
def nmR (Ξ : Nat → Option Nat) : Prop := Ξ 35 = some 35 ∧ ∀ a k, Ξ a = some k → a = k
theorem rst {j t : Nat} {B : Int} (hG : zH ζ zkdm D vwCl cy M Ξ g H) (hN : nmR Ξ) (hj : j < (zkdm.getD 35 (0, 0, 0, [])).2.2.1) (ht : zty (zkdm.getD 35 (0, 0, 0, [])) j = (t + 2, 0, B)) : g 35 j = (t : Int) ∧ Ξ t = some t := by
  obtain ⟨w1, w2⟩ := z_ptr hG hN.1 (zkR ⟨35, by decide⟩) hj ht
  have := hN.2 _ _ w2
  rw [this] at w2
  exact ⟨by omega, w2⟩
theorem rP_of (hG : zH ζ zkdm D vwCl cy M Ξ g H) (hN : nmR Ξ) : rP g ∧ g 35 63 = 34 ∧ (∀ a, a ≤ 7 → Ξ a = some a) ∧ Ξ 34 = some 34 := by
  have r1 := rst (j := 1) (t := 0) (B := 2147483647) hG hN (by decide +kernel) (by decide +kernel)
  have r2 := rst (j := 2) (t := 1) (B := 2147483647) hG hN (by decide +kernel) (by decide +kernel)
  have r3 := rst (j := 3) (t := 2) (B := 2147483647) hG hN (by decide +kernel) (by decide +kernel)
  have r4 := rst (j := 4) (t := 3) (B := 2147483647) hG hN (by decide +kernel) (by decide +kernel)
  have r5 := rst (j := 5) (t := 4) (B := 2147483647) hG hN (by decide +kernel) (by decide +kernel)
  have r6 := rst (j := 6) (t := 5) (B := 2147483647) hG hN (by decide +kernel) (by decide +kernel)
  have r7 := rst (j := 7) (t := 6) (B := 2147483647) hG hN (by decide +kernel) (by decide +kernel)
  have r8 := rst (j := 8) (t := 7) (B := 2147483647) hG hN (by decide +kernel) (by decide +kernel)
  have r18 := rst (j := 18) (t := 8) (B := 2147483647) hG hN (by decide +kernel) (by decide +kernel)
  have r19 := rst (j := 19) (t := 9) (B := 2147483647) hG hN (by decide +kernel) (by decide +kernel)
  have r63 := rst (j := 63) (t := 34) (B := 2147483647) hG hN (by decide +kernel) (by decide +kernel)
  refine ⟨⟨r1.1, r2.1, r3.1, r4.1, r5.1, r6.1, r7.1, r8.1, r18.1, r19.1⟩, r63.1, fun a ha => ?_, r63.2⟩
  rcases (show a = 0 ∨ a = 1 ∨ a = 2 ∨ a = 3 ∨ a = 4 ∨ a = 5 ∨ a = 6 ∨ a = 7 by omega) with rfl | rfl | rfl | rfl | rfl | rfl | rfl | rfl
  · exact r1.2
  · exact r2.2
  · exact r3.2
  · exact r4.2
  · exact r5.2
  · exact r6.2
  · exact r7.2
  · exact r8.2
theorem rBd_of (hG : zH ζ zkdm D vwCl cy M Ξ g H) (hN : nmR Ξ) : rBd g ∧ (0 ≤ g 1 0 ∧ g 1 0 ≤ 600) ∧ ∀ j, j < 12 → 0 ≤ g 4 j ∧ g 4 j ≤ 2 := by
  obtain ⟨-, -, k, -⟩ := rP_of hG hN
  have b : rBd g := fun a ha j hj => (zH_in hG (k a ha) (zkR ⟨a, by omega⟩) hj).2
  refine ⟨b, ?_, fun j hj => ?_⟩
  · have := b 1 (by decide) 0 (by decide +kernel)
    rw [zty_r1 ⟨0, by decide⟩] at this
    exact this
  · have := b 4 (by decide) j (by show j < 12; exact hj)
    rw [zty_r4 ⟨j, hj⟩] at this
    exact this
def efR (eff : List (Nat × Nat × Nat)) : Bool := eff.all (fun e => !([0, 1, 2, 3, 4, 5, 6, 7, 34].contains e.1))
/-- a call of the reference that leaves what is told -/
theorem RR.rf {F : Prop} {h : yH} {eff : List (Nat × Nat × Nat)} (hG : zH ζ zkdm D vwCl cy M Ξ g H) (hN : nmR Ξ) (oX : ∀ a k j, Ξ a = some k → zinE eff k j j = false → g' a j = g a j) (he : efR eff = true) (gP : rP g') (hL : lnI h) (hm : h 4 1 ≤ 600) (R : RR F h g) : RR F h g' := by
  obtain ⟨-, -, k, k34⟩ := rP_of hG hN
  have e : ∀ a j, a ≤ 7 → g' a j = g a j := fun a j ha => oX _ _ _ (k a ha) (ef_no he (by
    rcases (show a = 0 ∨ a = 1 ∨ a = 2 ∨ a = 3 ∨ a = 4 ∨ a = 5 ∨ a = 6 ∨ a = 7 by omega) with rfl | rfl | rfl | rfl | rfl | rfl | rfl | rfl <;> decide))
  have e34 : ∀ j, g' 34 j = g 34 j := fun j => oX _ _ _ k34 (ef_no he (by decide))
  obtain ⟨hP, -, R0, RI0⟩ := R
  exact ⟨hP, gP, R0.fr (fun _ _ _ _ => rfl) (fun j _ _ => e 0 j (by omega)) ⟨e 1 _ (by omega), e 2 _ (by omega), e 3 _ (by omega)⟩ (fun j _ _ => e 4 j (by omega)) (fun j _ _ => e 5 j (by omega)) (fun j _ _ => e 6 j (by omega)) (fun j _ _ => e 7 j (by omega)) hm, RI0.fr hL (fun _ _ _ => rfl) (fun _ => rfl) e34 (fun j _ => e 0 j (by omega)) (fun a j w _ => e a j (by omega)) (fun j _ => e 4 j (by omega)) (fun j _ => e 5 j (by omega)) (fun j _ => e 6 j (by omega)) (fun j _ => e 7 j (by omega))⟩
theorem RW.rf {F : Prop} {h : yH} {eff : List (Nat × Nat × Nat)} (hG : zH ζ zkdm D vwCl cy M Ξ g H) (hN : nmR Ξ) (oX : ∀ a k j, Ξ a = some k → zinE eff k j j = false → g' a j = g a j) (he : efR eff = true) (gP : rP g') (hL : lnI h) (hm : h 4 1 ≤ 600) (R : RW F h g) : RW F h g' := by
  obtain ⟨-, -, k, -⟩ := rP_of hG hN
  refine ⟨RR.rf hG hN oX he gP hL hm R.1, fun f => (R.2 f).r (fun a j _ ha => oX _ _ _ (k a ha) (ef_no he (by
    rcases (show a = 0 ∨ a = 1 ∨ a = 2 ∨ a = 3 ∨ a = 4 ∨ a = 5 ∨ a = 6 ∨ a = 7 by omega) with rfl | rfl | rfl | rfl | rfl | rfl | rfl | rfl <;> decide)))⟩
/-- the seas that are told are no points (what the reference's calls need) -/
theorem RR.J {F : Prop} {h : yH} (hG : zH ζ zkdm D vwCl cy M Ξ g H) (hN : nmR Ξ) (R : RR F h g) : (0 < rMn g 35 0 → 2 ≤ rSe g 35 0 ∧ 1 ≤ rSe g 35 4) ∧ (1 < rMn g 35 0 → 2 ≤ rSe g 35 50 ∧ 1 ≤ rSe g 35 54) := by
  obtain ⟨gP, -, -, -⟩ := rP_of hG hN
  have e5 : (g 35 5).toNat = 4 := by rw [gP.2.2.2.2.1]; rfl
  have e6 : (g 35 6).toNat = 5 := by rw [gP.2.2.2.2.2.1]; rfl
  unfold rMn rSe
  rw [e5, e6]
  obtain ⟨-, -, R0, -⟩ := R
  have r6 := R0.2.2.2.2.2.1
  refine ⟨fun w => ?_, fun w => ?_⟩
  · obtain ⟨t, -, a2, a3⟩ := r6 0 (by decide)
    have := a3 w
    have e0 := a2 0 (by decide)
    have e4 := a2 4 (by decide)
    simp only [Nat.mul_zero, Nat.add_zero, Nat.zero_add] at e0 e4
    rw [e0, e4]
    exact ⟨this.1.1, this.2.2.2.2.1.1⟩
  · obtain ⟨t, -, a2, a3⟩ := r6 1 (by decide)
    have := a3 w
    have e0 := a2 0 (by decide)
    have e4 := a2 4 (by decide)
    simp only [Nat.mul_zero, Nat.mul_one, Nat.add_zero, Nat.zero_add] at e0 e4
    rw [e0, e4]
    exact ⟨this.1.1, this.2.2.2.2.1.1⟩
end KNR
