/-! told over, whatever is told (the fields within their bounds) -/
set_option maxHeartbeats 1000000 in
theorem copy6g {n d s : Nat} {h : yH} (hd : d + 8 ≤ s ∨ s + 8 ≤ d) (pd : h d 5 = (d : Int) + 1 ∧ h d 7 = (d : Int) + 2 ∧ h d 8 = (d : Int) + 3 ∧ h d 9 = (d : Int) + 4 ∧ h d 11 = (d : Int) + 5 ∧ h d 12 = (d : Int) + 6 ∧ h d 13 = (d : Int) + 7) (ps : h s 5 = (s : Int) + 1 ∧ h s 7 = (s : Int) + 2 ∧ h s 8 = (s : Int) + 3 ∧ h s 9 = (s : Int) + 4 ∧ h s 11 = (s : Int) + 5 ∧ h s 12 = (s : Int) + 6 ∧ h s 13 = (s : Int) + 7) (hb : (0 ≤ h s 0 ∧ h s 0 ≤ 8) ∧ (0 ≤ h s 1 ∧ h s 1 ≤ 8) ∧ (0 ≤ h s 2 ∧ h s 2 ≤ 3) ∧ (0 ≤ h s 6 ∧ h s 6 ≤ 4) ∧ (0 ≤ h s 10 ∧ h s 10 ≤ 6)) : ∃ h2, f_X6_copyFrom n [(d : Int), (s : Int)] h = some (0, h2) ∧ (∀ t : Nat → Int, cS s t h → cS d t h2) ∧ ∀ a j, ¬ (d ≤ a ∧ a ≤ d + 7) ∨ (a = d ∧ (j = 5 ∨ j = 7 ∨ j = 8 ∨ j = 9 ∨ j = 11 ∨ j = 12 ∨ j = 13)) → h2 a j = h a j := by
  obtain ⟨pd5, pd7, pd8, pd9, pd11, pd12, pd13⟩ := pd
  obtain ⟨ps5, ps7, ps8, ps9, ps11, ps12, ps13⟩ := ps
  obtain ⟨b0, b1, b2, b6, b10⟩ := hb
  rw [e_X6_copyFrom]
  simp only [Int.toNat_natCast]
  have R0 := cp_0 d s h
  have hs : ∀ {F : Nat → Nat → Prop} {g : yH} {j : Nat}, cpR F d s h g → g s j = h s j := fun R => R.s0 (r := 0) hd (by omega)
  rw [xg_pos (by rw [hs R0]; exact b0)]
  have R1 := cp_up (J := 0) R0 hd
  rw [xh_e]
  generalize zup h d 0 (h s 0) = g1 at R1 ⊢
  rw [xg_pos (by rw [hs R1]; exact b1)]
  have R2 := cp_up (J := 1) R1 hd
  rw [xh_e]
  generalize zup g1 d 1 (g1 s 1) = g2 at R2 ⊢
  rw [xg_pos (by rw [hs R2]; exact b2)]
  have R3 := cp_up (J := 2) R2 hd
  rw [xh_e]
  generalize zup g2 d 2 (g2 s 2) = g3 at R3 ⊢
  have R4 := cp_up (J := 3) R3 hd
  rw [xh_e]
  generalize zup g3 d 3 (g3 s 3) = g4 at R4 ⊢
  have R5 := cp_up (J := 4) R4 hd
  rw [xh_e]
  generalize zup g4 d 4 (g4 s 4) = g5 at R5 ⊢
  rw [xg_pos (show g5 s 5 = (s : Int) + 1 by rw [hs R5]; exact ps5), xg_pos (show g5 d 5 = (d : Int) + 1 by rw [R5.d0 (by simp)]; exact pd5), xg_pos (show g5 d 5 = (d : Int) + 1 by rw [R5.d0 (by simp)]; exact pd5)]
  rw [show ((d : Int) + 1).toNat = d + 1 by omega, show ((s : Int) + 1).toNat = s + 1 by omega]
  have R6 := cp_cy (r0 := 1) (L := 12) R5 hd (by decide)
  rw [xh_e]
  generalize zcy g5 (d + 1) (s + 1) 0 0 12 = g6 at R6 ⊢
  rw [xg_pos (by rw [hs R6]; exact b6)]
  have R7 := cp_up (J := 6) R6 hd
  rw [xh_e]
  generalize zup g6 d 6 (g6 s 6) = g7 at R7 ⊢
  rw [xg_pos (show g7 s 7 = (s : Int) + 2 by rw [hs R7]; exact ps7), xg_pos (show g7 d 7 = (d : Int) + 2 by rw [R7.d0 (by simp)]; exact pd7)]
  rw [show ((d : Int) + 2).toNat = d + 2 by omega, show ((s : Int) + 2).toNat = s + 2 by omega]
  have R8 := cp_cy (r0 := 2) (L := 4) R7 hd (by decide)
  rw [xh_e]
  generalize zcy g7 (d + 2) (s + 2) 0 0 4 = g8 at R8 ⊢
  rw [xg_pos (show g8 s 8 = (s : Int) + 3 by rw [hs R8]; exact ps8), xg_pos (show g8 d 8 = (d : Int) + 3 by rw [R8.d0 (by simp)]; exact pd8)]
  rw [show ((d : Int) + 3).toNat = d + 3 by omega, show ((s : Int) + 3).toNat = s + 3 by omega]
  have R9 := cp_cy (r0 := 3) (L := 4) R8 hd (by decide)
  rw [xh_e]
  generalize zcy g8 (d + 3) (s + 3) 0 0 4 = g9 at R9 ⊢
  rw [xg_pos (show g9 s 9 = (s : Int) + 4 by rw [hs R9]; exact ps9), xg_pos (show g9 d 9 = (d : Int) + 4 by rw [R9.d0 (by simp)]; exact pd9)]
  rw [show ((d : Int) + 4).toNat = d + 4 by omega, show ((s : Int) + 4).toNat = s + 4 by omega]
  have R10 := cp_cy (r0 := 4) (L := 4) R9 hd (by decide)
  rw [xh_e]
  generalize zcy g9 (d + 4) (s + 4) 0 0 4 = g10 at R10 ⊢
  rw [xg_pos (by rw [hs R10]; exact b10)]
  have R11 := cp_up (J := 10) R10 hd
  rw [xh_e]
  generalize zup g10 d 10 (g10 s 10) = g11 at R11 ⊢
  rw [xg_pos (show g11 s 11 = (s : Int) + 5 by rw [hs R11]; exact ps11), xg_pos (show g11 d 11 = (d : Int) + 5 by rw [R11.d0 (by simp)]; exact pd11)]
  rw [show ((d : Int) + 5).toNat = d + 5 by omega, show ((s : Int) + 5).toNat = s + 5 by omega]
  have R12 := cp_cy (r0 := 5) (L := 6) R11 hd (by decide)
  rw [xh_e]
  generalize zcy g11 (d + 5) (s + 5) 0 0 6 = g12 at R12 ⊢
  rw [xg_pos (show g12 s 12 = (s : Int) + 6 by rw [hs R12]; exact ps12), xg_pos (show g12 d 12 = (d : Int) + 6 by rw [R12.d0 (by simp)]; exact pd12)]
  rw [show ((d : Int) + 6).toNat = d + 6 by omega, show ((s : Int) + 6).toNat = s + 6 by omega]
  have R13 := cp_cy (r0 := 6) (L := 6) R12 hd (by decide)
  rw [xh_e]
  generalize zcy g12 (d + 6) (s + 6) 0 0 6 = g13 at R13 ⊢
  rw [xg_pos (show g13 s 13 = (s : Int) + 7 by rw [hs R13]; exact ps13), xg_pos (show g13 d 13 = (d : Int) + 7 by rw [R13.d0 (by simp)]; exact pd13)]
  rw [show ((d : Int) + 7).toNat = d + 7 by omega, show ((s : Int) + 7).toNat = s + 7 by omega]
  have R14 := cp_cy (r0 := 7) (L := 6) R13 hd (by decide)
  rw [xh_e]
  generalize zcy g13 (d + 7) (s + 7) 0 0 6 = g14 at R14 ⊢
  have R15 := cp_up (J := 14) R14 hd
  rw [xh_e]
  generalize zup g14 d 14 (g14 s 14) = g15 at R15 ⊢
  have F0 : g15 d 0 = h s 0 := (R15.1 0 0 (Or.inl (Or.inl (Or.inl (Or.inl (Or.inl (Or.inl (Or.inl (Or.inl (Or.inl (Or.inl (Or.inl (Or.inl (Or.inl (Or.inl (Or.inr ⟨rfl, rfl⟩)))))))))))))))).2
  have F1 : g15 d 1 = h s 1 := (R15.1 0 1 (Or.inl (Or.inl (Or.inl (Or.inl (Or.inl (Or.inl (Or.inl (Or.inl (Or.inl (Or.inl (Or.inl (Or.inl (Or.inl (Or.inr ⟨rfl, rfl⟩))))))))))))))).2
  have F2 : g15 d 2 = h s 2 := (R15.1 0 2 (Or.inl (Or.inl (Or.inl (Or.inl (Or.inl (Or.inl (Or.inl (Or.inl (Or.inl (Or.inl (Or.inl (Or.inl (Or.inr ⟨rfl, rfl⟩)))))))))))))).2
  have F3 : g15 d 3 = h s 3 := (R15.1 0 3 (Or.inl (Or.inl (Or.inl (Or.inl (Or.inl (Or.inl (Or.inl (Or.inl (Or.inl (Or.inl (Or.inl (Or.inr ⟨rfl, rfl⟩))))))))))))).2
  have F4 : g15 d 4 = h s 4 := (R15.1 0 4 (Or.inl (Or.inl (Or.inl (Or.inl (Or.inl (Or.inl (Or.inl (Or.inl (Or.inl (Or.inl (Or.inr ⟨rfl, rfl⟩)))))))))))).2
  have B1 : ∀ j, j < 12 → g15 (d + 1) j = h (s + 1) j := fun j w => (R15.1 1 j (Or.inl (Or.inl (Or.inl (Or.inl (Or.inl (Or.inl (Or.inl (Or.inl (Or.inl (Or.inr ⟨rfl, w⟩))))))))))).2
  have F6 : g15 d 6 = h s 6 := (R15.1 0 6 (Or.inl (Or.inl (Or.inl (Or.inl (Or.inl (Or.inl (Or.inl (Or.inl (Or.inr ⟨rfl, rfl⟩)))))))))).2
  have B2 : ∀ j, j < 4 → g15 (d + 2) j = h (s + 2) j := fun j w => (R15.1 2 j (Or.inl (Or.inl (Or.inl (Or.inl (Or.inl (Or.inl (Or.inl (Or.inr ⟨rfl, w⟩))))))))).2
  have B3 : ∀ j, j < 4 → g15 (d + 3) j = h (s + 3) j := fun j w => (R15.1 3 j (Or.inl (Or.inl (Or.inl (Or.inl (Or.inl (Or.inl (Or.inr ⟨rfl, w⟩)))))))).2
  have B4 : ∀ j, j < 4 → g15 (d + 4) j = h (s + 4) j := fun j w => (R15.1 4 j (Or.inl (Or.inl (Or.inl (Or.inl (Or.inl (Or.inr ⟨rfl, w⟩))))))).2
  have F10 : g15 d 10 = h s 10 := (R15.1 0 10 (Or.inl (Or.inl (Or.inl (Or.inl (Or.inr ⟨rfl, rfl⟩)))))).2
  have B5 : ∀ j, j < 6 → g15 (d + 5) j = h (s + 5) j := fun j w => (R15.1 5 j (Or.inl (Or.inl (Or.inl (Or.inr ⟨rfl, w⟩))))).2
  have B6 : ∀ j, j < 6 → g15 (d + 6) j = h (s + 6) j := fun j w => (R15.1 6 j (Or.inl (Or.inl (Or.inr ⟨rfl, w⟩)))).2
  have B7 : ∀ j, j < 6 → g15 (d + 7) j = h (s + 7) j := fun j w => (R15.1 7 j (Or.inl (Or.inr ⟨rfl, w⟩))).2
  have F14 : g15 d 14 = h s 14 := (R15.1 0 14 (Or.inr ⟨rfl, rfl⟩)).2
  refine ⟨g15, rfl, ?_, fun a j w => R15.2 a j (fun c => ?_)⟩
  · intro t hS
    obtain ⟨a0, a1, a2, a3, a4, a5, a6, a7, a8, a9, a10⟩ := hS
    exact ⟨F0.trans a0, F1.trans a1, F2.trans a2, F3.trans a3, F4.trans a4, F6.trans a5, F10.trans a6, F14.trans a7, fun i hi => (B1 i (by omega)).trans (a8 i hi), fun k hk => ⟨(B2 k (by omega)).trans (a9 k hk).1, (B3 k (by omega)).trans (a9 k hk).2.1, (B4 k (by omega)).trans (a9 k hk).2.2⟩, fun k hk => ⟨(B5 k (by omega)).trans (a10 k hk).1, (B6 k (by omega)).trans (a10 k hk).2.1, (B7 k (by omega)).trans (a10 k hk).2.2⟩⟩
  · obtain ⟨c1, c2⟩ := c
    rcases c2 with ((((((((((((((c2 | c2) | c2) | c2) | c2) | c2) | c2) | c2) | c2) | c2) | c2) | c2) | c2) | c2) | c2) | c2 <;> first | exact c2.elim | omega
set_option maxHeartbeats 1000000 in
theorem copy1g {n d s : Nat} {h : yH} (hd : d + 8 ≤ s ∨ s + 8 ≤ d) (pd : h d 1 = (d : Int) + 1 ∧ h d 2 = (d : Int) + 2) (ps : h s 1 = (s : Int) + 1 ∧ h s 2 = (s : Int) + 2) (hb : (0 ≤ h s 0 ∧ h s 0 ≤ 30)) : ∃ h2, f_X1_copyFrom n [(d : Int), (s : Int)] h = some (0, h2) ∧ (∀ t : Nat → Int, cD s t h → cD d t h2) ∧ ∀ a j, ¬ (d ≤ a ∧ a ≤ d + 7) ∨ (a = d ∧ (j = 1 ∨ j = 2)) → h2 a j = h a j := by
  obtain ⟨pd1, pd2⟩ := pd
  obtain ⟨ps1, ps2⟩ := ps
  have b0 := hb
  rw [e_X1_copyFrom]
  simp only [Int.toNat_natCast]
  have R0 := cp_0 d s h
  have hs : ∀ {F : Nat → Nat → Prop} {g : yH} {j : Nat}, cpR F d s h g → g s j = h s j := fun R => R.s0 (r := 0) hd (by omega)
  rw [xg_pos (by rw [hs R0]; exact b0)]
  have R1 := cp_up (J := 0) R0 hd
  rw [xh_e]
  generalize zup h d 0 (h s 0) = g1 at R1 ⊢
  rw [xg_pos (show g1 s 1 = (s : Int) + 1 by rw [hs R1]; exact ps1), xg_pos (show g1 d 1 = (d : Int) + 1 by rw [R1.d0 (by simp)]; exact pd1)]
  rw [show ((d : Int) + 1).toNat = d + 1 by omega, show ((s : Int) + 1).toNat = s + 1 by omega]
  have R2 := cp_cy (r0 := 1) (L := 30) R1 hd (by decide)
  rw [xh_e]
  generalize zcy g1 (d + 1) (s + 1) 0 0 30 = g2 at R2 ⊢
  rw [xg_pos (show g2 s 2 = (s : Int) + 2 by rw [hs R2]; exact ps2), xg_pos (show g2 d 2 = (d : Int) + 2 by rw [R2.d0 (by simp)]; exact pd2), xg_pos (show g2 d 2 = (d : Int) + 2 by rw [R2.d0 (by simp)]; exact pd2)]
  rw [show ((d : Int) + 2).toNat = d + 2 by omega, show ((s : Int) + 2).toNat = s + 2 by omega]
  have R3 := cp_cy (r0 := 2) (L := 90) R2 hd (by decide)
  rw [xh_e]
  generalize zcy g2 (d + 2) (s + 2) 0 0 90 = g3 at R3 ⊢
  have F0 : g3 d 0 = h s 0 := (R3.1 0 0 (Or.inl (Or.inl (Or.inr ⟨rfl, rfl⟩)))).2
  have B1 : ∀ j, j < 30 → g3 (d + 1) j = h (s + 1) j := fun j w => (R3.1 1 j (Or.inl (Or.inr ⟨rfl, w⟩))).2
  have B2 : ∀ j, j < 90 → g3 (d + 2) j = h (s + 2) j := fun j w => (R3.1 2 j (Or.inr ⟨rfl, w⟩)).2
  refine ⟨g3, rfl, ?_, fun a j w => R3.2 a j (fun c => ?_)⟩
  · intro t hS
    obtain ⟨a0, a1⟩ := hS
    exact ⟨F0.trans a0, fun k hk => ⟨(B1 k (by omega)).trans (a1 k hk).1, (B2 (3 * k) (by omega)).trans (a1 k hk).2.1, (B2 (3 * k + 1) (by omega)).trans (a1 k hk).2.2.1, (B2 (3 * k + 2) (by omega)).trans (a1 k hk).2.2.2⟩⟩
  · obtain ⟨c1, c2⟩ := c
    rcases c2 with ((c2 | c2) | c2) | c2 <;> first | exact c2.elim | omega
set_option maxHeartbeats 1000000 in
theorem copy2g {n d s : Nat} {h : yH} (hd : d + 8 ≤ s ∨ s + 8 ≤ d) (pd : h d 1 = (d : Int) + 1 ∧ h d 2 = (d : Int) + 2 ∧ h d 4 = (d : Int) + 3 ∧ h d 5 = (d : Int) + 4) (ps : h s 1 = (s : Int) + 1 ∧ h s 2 = (s : Int) + 2 ∧ h s 4 = (s : Int) + 3 ∧ h s 5 = (s : Int) + 4) (hb : (0 ≤ h s 0 ∧ h s 0 ≤ 9) ∧ (0 ≤ h s 3 ∧ h s 3 ≤ 16)) : ∃ h2, f_X2_copyFrom n [(d : Int), (s : Int)] h = some (0, h2) ∧ (∀ t : Nat → Int, cQ s t h → cQ d t h2) ∧ ∀ a j, ¬ (d ≤ a ∧ a ≤ d + 7) ∨ (a = d ∧ (j = 1 ∨ j = 2 ∨ j = 4 ∨ j = 5)) → h2 a j = h a j := by
  obtain ⟨pd1, pd2, pd4, pd5⟩ := pd
  obtain ⟨ps1, ps2, ps4, ps5⟩ := ps
  obtain ⟨b0, b3⟩ := hb
  rw [e_X2_copyFrom]
  simp only [Int.toNat_natCast]
  have R0 := cp_0 d s h
  have hs : ∀ {F : Nat → Nat → Prop} {g : yH} {j : Nat}, cpR F d s h g → g s j = h s j := fun R => R.s0 (r := 0) hd (by omega)
  rw [xg_pos (by rw [hs R0]; exact b0)]
  have R1 := cp_up (J := 0) R0 hd
  rw [xh_e]
  generalize zup h d 0 (h s 0) = g1 at R1 ⊢
  rw [xg_pos (show g1 s 1 = (s : Int) + 1 by rw [hs R1]; exact ps1), xg_pos (show g1 d 1 = (d : Int) + 1 by rw [R1.d0 (by simp)]; exact pd1)]
  rw [show ((d : Int) + 1).toNat = d + 1 by omega, show ((s : Int) + 1).toNat = s + 1 by omega]
  have R2 := cp_cy (r0 := 1) (L := 9) R1 hd (by decide)
  rw [xh_e]
  generalize zcy g1 (d + 1) (s + 1) 0 0 9 = g2 at R2 ⊢
  rw [xg_pos (show g2 s 2 = (s : Int) + 2 by rw [hs R2]; exact ps2), xg_pos (show g2 d 2 = (d : Int) + 2 by rw [R2.d0 (by simp)]; exact pd2)]
  rw [show ((d : Int) + 2).toNat = d + 2 by omega, show ((s : Int) + 2).toNat = s + 2 by omega]
  have R3 := cp_cy (r0 := 2) (L := 9) R2 hd (by decide)
  rw [xh_e]
  generalize zcy g2 (d + 2) (s + 2) 0 0 9 = g3 at R3 ⊢
  rw [xg_pos (by rw [hs R3]; exact b3)]
  have R4 := cp_up (J := 3) R3 hd
  rw [xh_e]
  generalize zup g3 d 3 (g3 s 3) = g4 at R4 ⊢
  rw [xg_pos (show g4 s 4 = (s : Int) + 3 by rw [hs R4]; exact ps4), xg_pos (show g4 d 4 = (d : Int) + 3 by rw [R4.d0 (by simp)]; exact pd4)]
  rw [show ((d : Int) + 3).toNat = d + 3 by omega, show ((s : Int) + 3).toNat = s + 3 by omega]
  have R5 := cp_cy (r0 := 3) (L := 16) R4 hd (by decide)
  rw [xh_e]
  generalize zcy g4 (d + 3) (s + 3) 0 0 16 = g5 at R5 ⊢
  rw [xg_pos (show g5 s 5 = (s : Int) + 4 by rw [hs R5]; exact ps5), xg_pos (show g5 d 5 = (d : Int) + 4 by rw [R5.d0 (by simp)]; exact pd5)]
  rw [show ((d : Int) + 4).toNat = d + 4 by omega, show ((s : Int) + 4).toNat = s + 4 by omega]
  have R6 := cp_cy (r0 := 4) (L := 16) R5 hd (by decide)
  rw [xh_e]
  generalize zcy g5 (d + 4) (s + 4) 0 0 16 = g6 at R6 ⊢
  have F0 : g6 d 0 = h s 0 := (R6.1 0 0 (Or.inl (Or.inl (Or.inl (Or.inl (Or.inl (Or.inr ⟨rfl, rfl⟩))))))).2
  have B1 : ∀ j, j < 9 → g6 (d + 1) j = h (s + 1) j := fun j w => (R6.1 1 j (Or.inl (Or.inl (Or.inl (Or.inl (Or.inr ⟨rfl, w⟩)))))).2
  have B2 : ∀ j, j < 9 → g6 (d + 2) j = h (s + 2) j := fun j w => (R6.1 2 j (Or.inl (Or.inl (Or.inl (Or.inr ⟨rfl, w⟩))))).2
  have F3 : g6 d 3 = h s 3 := (R6.1 0 3 (Or.inl (Or.inl (Or.inr ⟨rfl, rfl⟩)))).2
  have B3 : ∀ j, j < 16 → g6 (d + 3) j = h (s + 3) j := fun j w => (R6.1 3 j (Or.inl (Or.inr ⟨rfl, w⟩))).2
  have B4 : ∀ j, j < 16 → g6 (d + 4) j = h (s + 4) j := fun j w => (R6.1 4 j (Or.inr ⟨rfl, w⟩)).2
  refine ⟨g6, rfl, ?_, fun a j w => R6.2 a j (fun c => ?_)⟩
  · intro t hS
    obtain ⟨a0, a1, a2, a3⟩ := hS
    exact ⟨F0.trans a0, F3.trans a1, fun k hk => ⟨(B1 k (by omega)).trans (a2 k hk).1, (B2 k (by omega)).trans (a2 k hk).2⟩, fun k hk => ⟨(B3 k (by omega)).trans (a3 k hk).1, (B4 k (by omega)).trans (a3 k hk).2⟩⟩
  · obtain ⟨c1, c2⟩ := c
    rcases c2 with (((((c2 | c2) | c2) | c2) | c2) | c2) | c2 <;> first | exact c2.elim | omega
