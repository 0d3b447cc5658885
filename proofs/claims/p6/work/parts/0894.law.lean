/-! how it begins: the names of all cells, what they hold -/
def cdCl : List Nat := [1, 3, 4, 5, 6, 7, 20, 21, 22, 23, 24, 25, 26, 27, 30, 31, 32, 33, 34, 35, 36, 37, 8, 40, 41, 42, 50, 51, 52, 9, 60, 61, 62, 63, 64, 70, 71, 72, 73, 74, 2, 80, 90, 91, 92, 93, 94, 95, 96, 97, 100, 101, 102, 110, 111, 112, 113, 114, 120, 121, 130, 131, 132, 133, 134, 135, 136, 137, 138, 139, 140, 141, 150, 160, 161, 162, 163, 164, 165, 166, 167, 170, 171, 172, 173, 180, 181, 182, 183, 184, 185, 186]
def cdC (i : Nat) : Nat := cdCl.getD i 0
def cdRl : List Nat := [35, 0, 1, 2, 3, 4, 5, 6, 7, 8, 9, 10, 11, 12, 13, 14, 15, 20, 19, 16, 17, 18, 21, 22, 23, 24, 25, 27, 28, 26, 29, 30, 31, 32, 33, 34]
def cdR (i : Nat) : Nat := cdRl.getD i 0
theorem cdC_b : ∀ i : Fin 92, cdC i.1 < 1000 := by decide +kernel
theorem cdR_b : ∀ i : Fin 36, cdR i.1 < 1000000 := by decide +kernel
theorem cdC_j : zinj 92 cdC := by
  intro i j hi hj e
  have key : ∀ i j : Fin 92, cdC i.1 = cdC j.1 → i = j := by decide +kernel
  exact congrArg Fin.val (key ⟨i, hi⟩ ⟨j, hj⟩ e)
theorem cdR_j : zinj 36 cdR := by
  intro i j hi hj e
  have key : ∀ i j : Fin 36, cdR i.1 = cdR j.1 → i = j := by decide +kernel
  exact congrArg Fin.val (key ⟨i, hi⟩ ⟨j, hj⟩ e)
def h0C : yH := zhh zkds zTc cdC (fun _ _ => 0)
def g0R : yH := zhh zkdm zTr cdR (fun _ _ => 0)
def Th0 : Nat → Option Nat := zTh zTc cdC zNm0
def Xi0 : Nat → Option Nat := zTh zTr cdR (fun _ => none)
theorem h0_P : cP h0C := by
  have : ∀ p ∈ cPL, h0C p.1 p.2.1 = p.2.2 := by decide +kernel
  exact this
theorem h0_w : cPw h0C := by
  unfold cPw cSp
  decide +kernel
theorem g0_4 : ∀ j : Fin 12, g0R 4 j.1 = 0 := by decide +kernel
theorem h0_cW : cW h0C g0R := ⟨h0_w, fun κ hκ => ⟨fun i _ w => by
  have := g0_4 ⟨3 * κ, by omega⟩
  simp only at this
  rw [this] at w
  omega, fun i _ w => by
  have := g0_4 ⟨3 * κ + 2, by omega⟩
  simp only at this
  rw [this] at w
  omega⟩⟩
theorem g0_P : rP g0R := by
  have : g0R 35 1 = 0 ∧ g0R 35 2 = 1 ∧ g0R 35 3 = 2 ∧ g0R 35 4 = 3 ∧ g0R 35 5 = 4 ∧ g0R 35 6 = 5 ∧ g0R 35 7 = 6 ∧ g0R 35 8 = 7 ∧ g0R 35 18 = 8 ∧ g0R 35 19 = 9 := by decide +kernel
  exact this
theorem R0_0 : (h0C 4 1 = 0 ∧ g0R 1 0 = 0) ∧ (∀ j : Fin 3, h0C 6 j.1 = 0 ∧ g0R 4 j.1 = 0) ∧ (h0C 3 5 = 0 ∧ g0R 2 0 = 0) ∧ (h0C 3 6 = -1 ∧ g0R 3 0 = -1) ∧ (∀ k : Fin 3, g0R 34 k.1 = 0 ∧ h0C 2 k.1 = -1) := by decide +kernel
theorem R0_s : ∀ i : Fin 2, (∀ j : Fin 15, ¬ (j.1 = 5 ∨ j.1 = 7 ∨ j.1 = 8 ∨ j.1 = 9 ∨ j.1 = 11 ∨ j.1 = 12 ∨ j.1 = 13) → h0C (20 + 10 * i.1) j.1 = 0) ∧ (∀ j : Fin 12, h0C (20 + 10 * i.1 + 1) j.1 = 0) ∧ (∀ j : Fin 50, g0R 5 (50 * i.1 + j.1) = 0) := by decide +kernel
theorem R0_d : ∀ i : Fin 2, h0C (40 + 10 * i.1) 0 = 0 ∧ ∀ j : Fin 121, g0R 6 (121 * i.1 + j.1) = 0 := by decide +kernel
theorem R0_q : ∀ i : Fin 2, (h0C (60 + 10 * i.1) 0 = 0 ∧ h0C (60 + 10 * i.1) 3 = 0) ∧ ∀ j : Fin 52, g0R 7 (52 * i.1 + j.1) = 0 := by decide +kernel
theorem R0 (F : Prop) : RR F h0C g0R := by
  obtain ⟨⟨l1, l2⟩, nn, ⟨f1, f2⟩, ⟨p1, p2⟩, im⟩ := R0_0
  have n4 : ∀ j, j < 3 → g0R 4 j = 0 := fun j hj => (nn ⟨j, hj⟩).2
  refine ⟨h0_P, g0_P, ⟨by rw [show h0C (0 + 4) 1 = 0 from l1, l2], fun i hi => by rw [show h0C (0 + 4) 1 = 0 from l1] at hi; omega, fun j hj => ?_, by rw [show h0C (0 + 3) 5 = 0 from f1, f2], by rw [show h0C (0 + 3) 6 = -1 from p1, p2], fun i hi => ?_, fun i hi => ?_, fun i hi => ?_⟩, fun k hk => Or.inl (im ⟨k, hk⟩)⟩
  · rw [show 0 + 6 = 6 from rfl, show 3 * 0 + j = j by omega, n4 j hj]
    exact (nn ⟨j, hj⟩).1
  · obtain ⟨s1, s2, s3⟩ := R0_s ⟨i, hi⟩
    simp only at s1 s2 s3
    refine ⟨fun _ => 0, fun _ => ?_, fun j hj => ?_, fun w => ?_⟩
    · rw [show 0 + 20 + 10 * i = 20 + 10 * i by omega]
      exact ⟨s1 ⟨0, by decide⟩ (by decide), s1 ⟨1, by decide⟩ (by decide), s1 ⟨2, by decide⟩ (by decide), s1 ⟨3, by decide⟩ (by decide), s1 ⟨4, by decide⟩ (by decide), s1 ⟨6, by decide⟩ (by decide), s1 ⟨10, by decide⟩ (by decide), s1 ⟨14, by decide⟩ (by decide), fun j hj => s2 ⟨j, hj⟩, fun k hk => absurd hk (by have hk' : (k : Int) < 0 := hk; omega), fun k hk => absurd hk (by have hk' : (k : Int) < 0 := hk; omega)⟩
    · rw [show 100 * 0 + 50 * i + j = 50 * i + j by omega]
      exact s3 ⟨j, hj⟩
    · rw [n4 _ (by decide)] at w
      omega
  · obtain ⟨s1, s3⟩ := R0_d ⟨i, hi⟩
    simp only at s1 s3
    refine ⟨fun _ => 0, ?_, fun j hj => ?_, fun w => ?_⟩
    · rw [show 0 + 40 + 10 * i = 40 + 10 * i by omega]
      exact ⟨s1, fun k hk => absurd hk (by have hk' : (k : Int) < 0 := hk; omega)⟩
    · rw [show 242 * 0 + 121 * i + j = 121 * i + j by omega]
      exact s3 ⟨j, hj⟩
    · rw [n4 _ (by decide)] at w
      omega
  · obtain ⟨⟨s1, s2⟩, s3⟩ := R0_q ⟨i, hi⟩
    simp only at s1 s2 s3
    refine ⟨fun _ => 0, ?_, fun j hj => ?_, fun w => ?_⟩
    · rw [show 0 + 60 + 10 * i = 60 + 10 * i by omega]
      exact ⟨s1, s2, fun k hk => absurd hk (by have hk' : (k : Int) < 0 := hk; omega), fun k hk => absurd hk (by have hk' : (k : Int) < 0 := hk; omega)⟩
    · rw [show 104 * 0 + 52 * i + j = 52 * i + j by omega]
      exact s3 ⟨j, hj⟩
    · rw [n4 _ (by decide)] at w
      omega
theorem Xi0_ok : nmR Xi0 := by
  have key : ∀ i : Fin 36, (zTr.getD i.1 (0, [])).1 = cdR i.1 := by decide +kernel
  refine ⟨zTh_at (T := zTr) (cd := cdR) (i := 0) cdR_j (by decide), fun a k ha => ?_⟩
  unfold Xi0 at ha
  by_cases hex : ∃ i, i < 36 ∧ cdR i = a
  · obtain ⟨i, hi, rfl⟩ := hex
    rw [zTh_at (T := zTr) (cd := cdR) cdR_j hi] at ha
    rw [← Option.some.inj ha]
    exact (key ⟨i, hi⟩).symm
  · rw [zTh_ne (T := zTr) (cd := cdR) (fun i hi e => hex ⟨i, hi, e⟩)] at ha
    cases ha
