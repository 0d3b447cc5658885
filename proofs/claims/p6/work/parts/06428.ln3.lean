/-! the reference: size, wind, nets, deaf; a sea's line -/
theorem zup_tU (h : yH) (a j : Nat) (x : Int) : zup h a j x a = tU (h a) j x := by
  funext i
  unfold tU
  rw [zup_app]
  by_cases e : i = j
  · rw [if_pos ⟨rfl, e⟩, if_pos e]
  · rw [if_neg (fun w => e w.2), if_neg e]
theorem y_or6 : ∀ d : Fin 64, ∀ r : Fin 6, 0 ≤ yari 8 (d.val : Int) (yari 5 1 (r.val : Int)) ∧ yari 8 (d.val : Int) (yari 5 1 (r.val : Int)) ≤ 63 := by decide +kernel
theorem y_or0 : ∀ d : Fin 64, yari 8 (d.val : Int) 0 = (d.val : Int) := by decide +kernel
theorem or6 {d r : Int} (h1 : 0 ≤ d ∧ d ≤ 63) (h2 : 0 ≤ r ∧ r ≤ 5) : 0 ≤ yari 8 d (yari 5 1 r) ∧ yari 8 d (yari 5 1 r) ≤ 63 := by
  have := y_or6 ⟨d.toNat, by omega⟩ ⟨r.toNat, by omega⟩
  simp only at this
  rw [show ((d.toNat : Nat) : Int) = d by omega, show ((r.toNat : Nat) : Int) = r by omega] at this
  exact this
theorem or0 {d : Int} (h1 : 0 ≤ d ∧ d ≤ 63) : yari 8 d 0 = d := by
  have := y_or0 ⟨d.toNat, by omega⟩
  simp only at this
  rw [show ((d.toNat : Nat) : Int) = d by omega] at this
  exact this
theorem size_e {u : Nat → Int} {N x n : Nat} {p : Int} {q0 : Int × Int} {h0 : yH} (hn : 1400 ≤ n) (hx : x ≤ N) (hS : rS u N x 0 0 q0 h0 0 h0) (hb : -1 ≤ h0 35 21 ∧ h0 35 21 ≤ 99) (hB : rB 0 (h0 8)) :
    ((∀ i, i < lnN 0 → tkK u N (tkN u N x (i + 1)) = 3) → ∃ h2, xq_X12_seaLine_165 n [35, 1936292453, p, 1] h0 = some (1, h2) ∧ lnD u N x 0 0 q0 h0 h2) ∧
    ∀ i, i < lnN 0 → tkK u N (tkN u N x (i + 1)) ≠ 3 → (∀ j, j < i → tkK u N (tkN u N x (j + 1)) = 3) → ∃ h2, xq_X12_seaLine_165 n [35, 1936292453, p, 1] h0 = some (0, h2) ∧ lnX1 (lp u N x i) h0 h2 := by
  have ln' : lnN 0 = 2 := by decide
  have t0 : tkK u N (tkN u N x 1) = 3 → ∃ h2, f_X12_take n [35, 0, 2, 8] h0 = some (1, h2) ∧ rS u N x 0 0 q0 h0 1 h2 := fun hK => take_t hn hx hS hK rfl (by decide) (fun _ => lnB_t (by decide) (by decide) (by decide))
  have t1 : ∀ h, rS u N x 0 0 q0 h0 1 h → tkK u N (tkN u N x 2) = 3 → ∃ h2, f_X12_take n [35, 1, 2, 8] h = some (1, h2) ∧ rS u N x 0 0 q0 h0 2 h2 := fun h hS hK => take_t hn hx hS hK rfl (by decide) (fun _ => lnB_t (by decide) (by decide) (by decide))
  constructor
  · intro hK
    obtain ⟨h1, r1, s1⟩ := t0 (hK 0 (by omega))
    obtain ⟨h2, r2, s2⟩ := t1 h1 s1 (hK 1 (by omega))
    have e8 : h2 8 = h0 8 := by
      funext j
      exact s2.2.2.2.2.2.2.2 8 j (by omega) (by omega)
    have e20 : h2 35 20 = h0 35 20 := s2.2.2.2.2.2.2.2 35 20 (by omega) (by omega)
    have e21 : h2 35 21 = h0 35 21 := s2.2.2.2.2.2.2.2 35 21 (by omega) (by omega)
    have hv := s2.2.2.2.2.1
    have p18 : h2 35 18 = 8 := s2.1.2.2.2.2.2.2.2.2.2.2.2.1
    have p19 : h2 35 19 = 9 := s2.1.2.2.2.2.2.2.2.2.2.2.2.2
    have v0 := hv 0 (by decide)
    have v1 := hv 1 (by decide)
    rw [Nat.zero_add] at v0 v1
    rw [e_X12_seaLine_165, if_pos rfl, e_X12_seaLine_194, if_pos rfl, e_X12_seaLine_233, r1, xb_some, if_neg (by decide), if_neg (by decide), if_pos rfl, e_X12_seaLine_259, if_pos rfl, r2, xb_some, if_neg (by decide), e_X12_seaLine_281, if_neg (by decide), if_neg (by decide), xg_pos p18, if_pos rfl, e_X12_seaLine_382, xg_pos p19, xg_pos (by decide), xg_pos (by omega), xg_pos p18, if_pos rfl, xg_pos p19, xg_pos (by omega), v0.1, v1.1]
    refine ⟨_, rfl, lnD_of s2 ln' (fun _ => ?_) ?_ (by rw [zup_ne (by omega), zup_ne (by omega)]; exact e20) (by rw [zup_ne (by omega), zup_ne (by omega)]; exact e21) (fun a j w _ => by rw [zup_ne (by omega), zup_ne (by omega)])⟩
    · rw [zup_tU, zup_tU, e8]
      rfl
    · obtain ⟨b5, b6, b49⟩ := hB.1 rfl
      refine ⟨fun _ => ?_, fun w => by omega, fun w => by omega⟩
      rw [zup_tU, zup_tU, e8, tU_ne (by decide), tU_ne (by decide), tU_ne (by decide), tU_ne (by decide), tU_ne (by decide), tU_ne (by decide)]
      exact ⟨b5, b6, b49⟩
  · intro i hi hK hj
    rw [e_X12_seaLine_165, if_pos rfl, e_X12_seaLine_194, if_pos rfl, e_X12_seaLine_233]
    rcases (show i = 0 ∨ i = 1 by omega) with rfl | rfl
    · exact ⟨_, by rw [take_f hS hK, xb_some, if_pos rfl], hS.x pF.rfl'⟩
    · obtain ⟨h1, r1, s1⟩ := t0 (hj 0 (by omega))
      exact ⟨_, by rw [r1, xb_some, if_neg (by decide), if_neg (by decide), if_pos rfl, e_X12_seaLine_259, if_pos rfl, take_f s1 hK, xb_some, if_pos rfl], s1.x pF.rfl'⟩
theorem wind_e {u : Nat → Int} {N x n : Nat} {p : Int} {q0 : Int × Int} {h0 : yH} (hn : 1400 ≤ n) (hx : x ≤ N) (hS : rS u N x 1 0 q0 h0 0 h0) (hb : -1 ≤ h0 35 21 ∧ h0 35 21 ≤ 99) (hB : rB 0 (h0 8)) :
    ((∀ i, i < lnN 1 → tkK u N (tkN u N x (i + 1)) = 3) → ∃ h2, xq_X12_seaLine_165 n [35, 2003398244, p, 1] h0 = some (1, h2) ∧ lnD u N x 0 1 q0 h0 h2) ∧
    ∀ i, i < lnN 1 → tkK u N (tkN u N x (i + 1)) ≠ 3 → (∀ j, j < i → tkK u N (tkN u N x (j + 1)) = 3) → ∃ h2, xq_X12_seaLine_165 n [35, 2003398244, p, 1] h0 = some (0, h2) ∧ lnX1 (lp u N x i) h0 h2 := by
  have ln' : lnN 1 = 2 := by decide
  have t0 : tkK u N (tkN u N x 1) = 3 → ∃ h2, f_X12_take n [35, 0, 0, 3] h0 = some (1, h2) ∧ rS u N x 1 0 q0 h0 1 h2 := fun hK => take_t hn hx hS hK rfl (by decide) (fun _ => lnB_t (by decide) (by decide) (by decide))
  have t1 : ∀ h, rS u N x 1 0 q0 h0 1 h → tkK u N (tkN u N x 2) = 3 → ∃ h2, f_X12_take n [35, 1, 0, 3] h = some (1, h2) ∧ rS u N x 1 0 q0 h0 2 h2 := fun h hS hK => take_t hn hx hS hK rfl (by decide) (fun _ => lnB_t (by decide) (by decide) (by decide))
  constructor
  · intro hK
    obtain ⟨h1, r1, s1⟩ := t0 (hK 0 (by omega))
    obtain ⟨h2, r2, s2⟩ := t1 h1 s1 (hK 1 (by omega))
    have e8 : h2 8 = h0 8 := by
      funext j
      exact s2.2.2.2.2.2.2.2 8 j (by omega) (by omega)
    have e20 : h2 35 20 = h0 35 20 := s2.2.2.2.2.2.2.2 35 20 (by omega) (by omega)
    have e21 : h2 35 21 = h0 35 21 := s2.2.2.2.2.2.2.2 35 21 (by omega) (by omega)
    have hv := s2.2.2.2.2.1
    have p18 : h2 35 18 = 8 := s2.1.2.2.2.2.2.2.2.2.2.2.2.1
    have p19 : h2 35 19 = 9 := s2.1.2.2.2.2.2.2.2.2.2.2.2.2
    have v0 := hv 0 (by decide)
    have v1 := hv 1 (by decide)
    rw [Nat.zero_add] at v0 v1
    rw [e_X12_seaLine_165, if_neg (by decide), if_neg (by decide), e_X12_seaLine_194, if_neg (by decide), if_pos rfl, e_X12_seaLine_233, r1, xb_some, if_neg (by decide), if_neg (by decide), if_neg (by decide), e_X12_seaLine_259, if_neg (by decide), r2, xb_some, if_neg (by decide), e_X12_seaLine_281, if_neg (by decide), if_neg (by decide), xg_pos p18, if_neg (by decide), e_X12_seaLine_382, xg_pos p19, xg_pos (by decide), xg_pos (by omega), xg_pos p18, if_neg (by decide), xg_pos p19, xg_pos (by omega), v0.1, v1.1]
    refine ⟨_, rfl, lnD_of s2 ln' (fun _ => ?_) ?_ (by rw [zup_ne (by omega), zup_ne (by omega)]; exact e20) (by rw [zup_ne (by omega), zup_ne (by omega)]; exact e21) (fun a j w _ => by rw [zup_ne (by omega), zup_ne (by omega)])⟩
    · rw [zup_tU, zup_tU, e8]
      rfl
    · obtain ⟨b5, b6, b49⟩ := hB.1 rfl
      refine ⟨fun _ => ?_, fun w => by omega, fun w => by omega⟩
      rw [zup_tU, zup_tU, e8, tU_ne (by decide), tU_ne (by decide), tU_ne (by decide), tU_ne (by decide), tU_ne (by decide), tU_ne (by decide)]
      exact ⟨b5, b6, b49⟩
  · intro i hi hK hj
    rw [e_X12_seaLine_165, if_neg (by decide), if_neg (by decide), e_X12_seaLine_194, if_neg (by decide), if_pos rfl, e_X12_seaLine_233]
    rcases (show i = 0 ∨ i = 1 by omega) with rfl | rfl
    · exact ⟨_, by rw [take_f hS hK, xb_some, if_pos rfl], hS.x pF.rfl'⟩
    · obtain ⟨h1, r1, s1⟩ := t0 (hj 0 (by omega))
      exact ⟨_, by rw [r1, xb_some, if_neg (by decide), if_neg (by decide), if_neg (by decide), e_X12_seaLine_259, if_neg (by decide), take_f s1 hK, xb_some, if_pos rfl], s1.x pF.rfl'⟩
theorem nets_e {u : Nat → Int} {N x n : Nat} {p : Int} {q0 : Int × Int} {h0 : yH} (hn : 1400 ≤ n) (hx : x ≤ N) (hS : rS u N x 2 0 q0 h0 0 h0) (hb : -1 ≤ h0 35 21 ∧ h0 35 21 ≤ 99) (hB : rB 0 (h0 8)) :
    ((∀ i, i < lnN 2 → tkK u N (tkN u N x (i + 1)) = 3) → ∃ h2, xq_X12_seaLine_165 n [35, 1852142707, p, 0] h0 = some (1, h2) ∧ lnD u N x 0 2 q0 h0 h2) ∧
    ∀ i, i < lnN 2 → tkK u N (tkN u N x (i + 1)) ≠ 3 → (∀ j, j < i → tkK u N (tkN u N x (j + 1)) = 3) → ∃ h2, xq_X12_seaLine_165 n [35, 1852142707, p, 0] h0 = some (0, h2) ∧ lnX1 (lp u N x i) h0 h2 := by
  have ln' : lnN 2 = 1 := by decide
  have t0 : tkK u N (tkN u N x 1) = 3 → ∃ h2, f_X12_take n [35, 0, 1, 9] h0 = some (1, h2) ∧ rS u N x 2 0 q0 h0 1 h2 := fun hK => take_t hn hx hS hK rfl (by decide) (fun _ => lnB_t (by decide) (by decide) (by decide))
  constructor
  · intro hK
    obtain ⟨h1, r1, s1⟩ := t0 (hK 0 (by omega))
    have e8 : h1 8 = h0 8 := by
      funext j
      exact s1.2.2.2.2.2.2.2 8 j (by omega) (by omega)
    have e20 : h1 35 20 = h0 35 20 := s1.2.2.2.2.2.2.2 35 20 (by omega) (by omega)
    have e21 : h1 35 21 = h0 35 21 := s1.2.2.2.2.2.2.2 35 21 (by omega) (by omega)
    have hv := s1.2.2.2.2.1
    have p18 : h1 35 18 = 8 := s1.1.2.2.2.2.2.2.2.2.2.2.2.1
    have p19 : h1 35 19 = 9 := s1.1.2.2.2.2.2.2.2.2.2.2.2.2
    have v0 := hv 0 (by decide)
    rw [Nat.zero_add] at v0
    rw [e_X12_seaLine_165, if_neg (by decide), if_pos rfl, e_X12_seaLine_194, if_neg (by decide), if_neg (by decide), if_pos rfl, e_X12_seaLine_233, r1, xb_some, if_neg (by decide), if_pos rfl, e_X12_seaLine_281, if_neg (by decide), if_pos rfl, xg_pos p18, xg_pos p19, xg_pos (by omega), v0.1]
    refine ⟨_, rfl, lnD_of s1 ln' (fun _ => ?_) ?_ (by rw [zup_ne (by omega)]; exact e20) (by rw [zup_ne (by omega)]; exact e21) (fun a j w _ => by rw [zup_ne (by omega)])⟩
    · rw [zup_tU, e8]
      rfl
    · obtain ⟨b5, b6, b49⟩ := hB.1 rfl
      refine ⟨fun _ => ?_, fun w => by omega, fun w => by omega⟩
      rw [zup_tU, e8, tU_ne (by decide), tU_ne (by decide), tU_ne (by decide)]
      exact ⟨b5, b6, b49⟩
  · intro i hi hK hj
    rw [e_X12_seaLine_165, if_neg (by decide), if_pos rfl, e_X12_seaLine_194, if_neg (by decide), if_neg (by decide), if_pos rfl, e_X12_seaLine_233]
    rcases (show i = 0 by omega) with rfl
    exact ⟨_, by rw [take_f hS hK, xb_some, if_pos rfl], hS.x pF.rfl'⟩
theorem deaf_e {u : Nat → Int} {N x n : Nat} {p : Int} {q0 : Int × Int} {h0 : yH} (hn : 1400 ≤ n) (hx : x ≤ N) (hS : rS u N x 6 0 q0 h0 0 h0) (hb : -1 ≤ h0 35 21 ∧ h0 35 21 ≤ 99) (hB : rB 0 (h0 8)) :
    ((∀ i, i < lnN 6 → tkK u N (tkN u N x (i + 1)) = 3) → ∃ h2, xq_X12_seaLine_165 n [35, 1684365670, p, 0] h0 = some (1, h2) ∧ lnD u N x 0 6 q0 h0 h2) ∧
    ∀ i, i < lnN 6 → tkK u N (tkN u N x (i + 1)) ≠ 3 → (∀ j, j < i → tkK u N (tkN u N x (j + 1)) = 3) → ∃ h2, xq_X12_seaLine_165 n [35, 1684365670, p, 0] h0 = some (0, h2) ∧ lnX1 (lp u N x i) h0 h2 := by
  have ln' : lnN 6 = 1 := by decide
  have t0 : tkK u N (tkN u N x 1) = 3 → ∃ h2, f_X12_take n [35, 0, 0, 5] h0 = some (1, h2) ∧ rS u N x 6 0 q0 h0 1 h2 := fun hK => take_t hn hx hS hK rfl (by decide) (fun _ => lnB_t (by decide) (by decide) (by decide))
  constructor
  · intro hK
    obtain ⟨h1, r1, s1⟩ := t0 (hK 0 (by omega))
    have e8 : h1 8 = h0 8 := by
      funext j
      exact s1.2.2.2.2.2.2.2 8 j (by omega) (by omega)
    have e20 : h1 35 20 = h0 35 20 := s1.2.2.2.2.2.2.2 35 20 (by omega) (by omega)
    have e21 : h1 35 21 = h0 35 21 := s1.2.2.2.2.2.2.2 35 21 (by omega) (by omega)
    have hv := s1.2.2.2.2.1
    have p18 : h1 35 18 = 8 := s1.1.2.2.2.2.2.2.2.2.2.2.2.1
    have p19 : h1 35 19 = 9 := s1.1.2.2.2.2.2.2.2.2.2.2.2.2
    have v0 := hv 0 (by decide)
    rw [Nat.zero_add] at v0
    obtain ⟨b5, b6, b49⟩ := hB.1 rfl
    rw [e_X12_seaLine_165, if_neg (by decide), if_neg (by decide), e_X12_seaLine_194, if_neg (by decide), if_neg (by decide), if_neg (by decide), e_X12_seaLine_233, r1, xb_some, if_neg (by decide), if_pos rfl, e_X12_seaLine_281, if_pos rfl, xg_pos p18, xg_pos p19, v0.1, e8, e21]
    by_cases h6 : lv u N x 0 < 6
    · have b := or6 (d := h0 8 49) (r := lv u N x 0) b49 (by omega)
      rw [if_pos h6, xg_pos p19, xg_pos (by omega), xg_pos p19, gr_e, xb_some, xg_pos (by omega)]
      refine ⟨_, rfl, lnD_of s1 ln' (fun _ => ?_) ?_ (by rw [zup_ne (by omega), zup_ne (by omega)]; exact e20) (by rw [zup_at]; rfl) (fun a j w w2 => by rw [zup_ne (by omega), zup_ne (by omega)])⟩
      · rw [zup_row (by decide), zup_tU, e8]
        rfl
      · refine ⟨fun _ => ?_, fun w => by omega, fun w => by omega⟩
        rw [zup_row (by decide), zup_tU, e8, tU_ne (by decide), tU_ne (by decide), tU_at]
        exact ⟨b5, b6, b⟩
    · rw [if_neg h6, or0 b49, xg_pos (by omega), xg_pos p19, gr_e, xb_some, xg_pos (by omega)]
      refine ⟨_, rfl, lnD_of s1 ln' (fun w => ?_) ?_ (by rw [zup_ne (by omega), zup_ne (by omega)]; exact e20) (by rw [zup_at]; rfl) (fun a j w w2 => by rw [zup_ne (by omega), zup_ne (by omega)])⟩
      · have h1 := w 0 (by decide)
        rw [lnB_t (lo := 0) (hi := 5) (by decide) (by decide) (by decide)] at h1
        omega
      · refine ⟨fun _ => ?_, fun w => by omega, fun w => by omega⟩
        rw [zup_row (by decide), zup_tU, e8, tU_ne (by decide), tU_ne (by decide), tU_at]
        exact ⟨b5, b6, b49⟩
  · intro i hi hK hj
    rw [e_X12_seaLine_165, if_neg (by decide), if_neg (by decide), e_X12_seaLine_194, if_neg (by decide), if_neg (by decide), if_neg (by decide), e_X12_seaLine_233]
    rcases (show i = 0 by omega) with rfl
    exact ⟨_, by rw [take_f hS hK, xb_some, if_pos rfl], hS.x pF.rfl'⟩
/-- which one is noted if it is one too many -/
noncomputable def ntF (q : Int × Int) (ln : Nat) (t : Nat → Int) (p : Int) : Int × Int := @nt q (lnAdds ln ∧ t (lnC ln) = lnM ln) (Classical.propDecidable _) 3 p
theorem ntF_le {q : Int × Int} {ln : Nat} {t : Nat → Int} {p : Int} (h : q.1 = 0 ∨ q.2 < p) : (ntF q ln t p).1 = 0 ∨ (ntF q ln t p).2 ≤ p := by
  unfold ntF nt
  split
  · exact Or.inr (Int.le_refl _)
  · rcases h with h | h
    · exact Or.inl h
    · exact Or.inr (by omega)
theorem ntF_n {q : Int × Int} {ln : Nat} {t : Nat → Int} {p : Int} (h : ¬ lnAdds ln) : ntF q ln t p = q := by
  unfold ntF
  exact @nt_f _ _ (Classical.propDecidable _) _ _ (fun w => h w.1)
set_option maxHeartbeats 1000000 in
theorem seaLine_e {u : Nat → Int} {N x n ln : Nat} {q : Int × Int} {h : yH} (hln : ln < 7) (hn : 1400 ≤ n) (hx : x ≤ N) (hc : rC u N h) (hA : tokA u N x h) (hK : tkK u N x ≠ 0) (hq : rN h q) (h0 : q.1 = 0 ∨ q.2 < (tkS u N x : Nat)) (hb20 : -1 ≤ h 35 20 ∧ h 35 20 ≤ 99) (hb21 : -1 ≤ h 35 21 ∧ h 35 21 ≤ 99) (hB : rB 0 (h 8)) :
    ((∀ i, i < lnN ln → tkK u N (tkN u N x (i + 1)) = 3) → ∃ h2, f_X12_seaLine n [35, lnW.getD ln 0, (tkS u N x : Nat)] h = some (1, h2) ∧ lnD u N x 0 ln (ntF q ln (h 8) (tkS u N x : Nat)) h h2) ∧
    ∀ i, i < lnN ln → tkK u N (tkN u N x (i + 1)) ≠ 3 → (∀ j, j < i → tkK u N (tkN u N x (j + 1)) = 3) → ∃ h2, f_X12_seaLine n [35, lnW.getD ln 0, (tkS u N x : Nat)] h = some (0, h2) ∧ lnX1 (lp u N x i) h h2 := by
  rcases (show ln = 0 ∨ ln = 1 ∨ ln = 2 ∨ ln = 3 ∨ ln = 4 ∨ ln = 5 ∨ ln = 6 by omega) with rfl | rfl | rfl | rfl | rfl | rfl | rfl
  · rw [show lnW.getD 0 0 = 1936292453 from rfl]
    obtain ⟨h2, r2, c2, a2, q2, l2, f2⟩ := start_e (n := n) (q := ntF q 0 (h 8) (tkS u N x : Nat)) hn hx hc hA hK (by rw [ntF_n (by unfold lnAdds; omega)]; exact hq) (ntF_le h0)
    have hS : rS u N x 0 0 (ntF q 0 (h 8) (tkS u N x : Nat)) (zup h2 35 22 1) 0 (zup h2 35 22 1) := rS_g c2 a2 q2 l2
    have e8 : (zup h2 35 22 1) 8 = h 8 := by
      funext j
      rw [zup_ne (by omega), f2 8 j (by omega)]
    have e20 : (zup h2 35 22 1) 35 20 = h 35 20 := by rw [zup_ne (by omega), f2 35 20 (by omega)]
    have e21 : (zup h2 35 22 1) 35 21 = h 35 21 := by rw [zup_ne (by omega), f2 35 21 (by omega)]
    have pp : pF h (zup h2 35 22 1) := pF.up (fun a j w => by rw [f2 a j (by omega)]) (by omega)
    rw [e_X12_seaLine, if_pos rfl, e_X12_seaLine_61, if_neg (by decide), if_neg (by decide), e_X12_seaLine_96, r2, xb_some, if_neg (by decide), if_neg (by decide), if_neg (by decide), if_pos rfl]
    obtain ⟨y1, y2⟩ := size_e (n := n) (p := (tkS u N x : Nat)) hn hx hS (by rw [e21]; exact hb21) (by rw [e8]; exact hB)
    refine ⟨fun hK3 => ?_, fun i hi hKi hj => ?_⟩
    · obtain ⟨g, g1, g2⟩ := y1 hK3
      exact ⟨g, by rw [g1], g2.back e8 e20 e21 pp⟩
    · obtain ⟨g, g1, g2⟩ := y2 i hi hKi hj
      exact ⟨g, by rw [g1], g2.back pp⟩
  · rw [show lnW.getD 1 0 = 2003398244 from rfl]
    obtain ⟨h2, r2, c2, a2, q2, l2, f2⟩ := start_e (n := n) (q := ntF q 1 (h 8) (tkS u N x : Nat)) hn hx hc hA hK (by rw [ntF_n (by unfold lnAdds; omega)]; exact hq) (ntF_le h0)
    have hS : rS u N x 1 0 (ntF q 1 (h 8) (tkS u N x : Nat)) (zup h2 35 22 1) 0 (zup h2 35 22 1) := rS_g c2 a2 q2 l2
    have e8 : (zup h2 35 22 1) 8 = h 8 := by
      funext j
      rw [zup_ne (by omega), f2 8 j (by omega)]
    have e20 : (zup h2 35 22 1) 35 20 = h 35 20 := by rw [zup_ne (by omega), f2 35 20 (by omega)]
    have e21 : (zup h2 35 22 1) 35 21 = h 35 21 := by rw [zup_ne (by omega), f2 35 21 (by omega)]
    have pp : pF h (zup h2 35 22 1) := pF.up (fun a j w => by rw [f2 a j (by omega)]) (by omega)
    rw [e_X12_seaLine, if_neg (by decide), if_pos rfl, e_X12_seaLine_61, if_neg (by decide), if_neg (by decide), e_X12_seaLine_96, r2, xb_some, if_neg (by decide), if_neg (by decide), if_neg (by decide), if_neg (by decide), if_pos rfl]
    obtain ⟨y1, y2⟩ := wind_e (n := n) (p := (tkS u N x : Nat)) hn hx hS (by rw [e21]; exact hb21) (by rw [e8]; exact hB)
    refine ⟨fun hK3 => ?_, fun i hi hKi hj => ?_⟩
    · obtain ⟨g, g1, g2⟩ := y1 hK3
      exact ⟨g, by rw [g1], g2.back e8 e20 e21 pp⟩
    · obtain ⟨g, g1, g2⟩ := y2 i hi hKi hj
      exact ⟨g, by rw [g1], g2.back pp⟩
  · rw [show lnW.getD 2 0 = 1852142707 from rfl]
    obtain ⟨h2, r2, c2, a2, q2, l2, f2⟩ := start_e (n := n) (q := ntF q 2 (h 8) (tkS u N x : Nat)) hn hx hc hA hK (by rw [ntF_n (by unfold lnAdds; omega)]; exact hq) (ntF_le h0)
    have hS : rS u N x 2 0 (ntF q 2 (h 8) (tkS u N x : Nat)) (zup h2 35 22 1) 0 (zup h2 35 22 1) := rS_g c2 a2 q2 l2
    have e8 : (zup h2 35 22 1) 8 = h 8 := by
      funext j
      rw [zup_ne (by omega), f2 8 j (by omega)]
    have e20 : (zup h2 35 22 1) 35 20 = h 35 20 := by rw [zup_ne (by omega), f2 35 20 (by omega)]
    have e21 : (zup h2 35 22 1) 35 21 = h 35 21 := by rw [zup_ne (by omega), f2 35 21 (by omega)]
    have pp : pF h (zup h2 35 22 1) := pF.up (fun a j w => by rw [f2 a j (by omega)]) (by omega)
    rw [e_X12_seaLine, if_neg (by decide), if_neg (by decide), if_pos rfl, e_X12_seaLine_61, if_neg (by decide), if_neg (by decide), e_X12_seaLine_96, r2, xb_some, if_neg (by decide), if_neg (by decide), if_neg (by decide), if_neg (by decide), if_neg (by decide)]
    obtain ⟨y1, y2⟩ := nets_e (n := n) (p := (tkS u N x : Nat)) hn hx hS (by rw [e21]; exact hb21) (by rw [e8]; exact hB)
    refine ⟨fun hK3 => ?_, fun i hi hKi hj => ?_⟩
    · obtain ⟨g, g1, g2⟩ := y1 hK3
      exact ⟨g, by rw [g1], g2.back e8 e20 e21 pp⟩
    · obtain ⟨g, g1, g2⟩ := y2 i hi hKi hj
      exact ⟨g, by rw [g1], g2.back pp⟩
  · rw [show lnW.getD 3 0 = 427070419828 from rfl]
    obtain ⟨h2, r2, c2, a2, q2, l2, f2⟩ := start_e (n := n) (q := ntF q 3 (h 8) (tkS u N x : Nat)) hn hx hc hA hK (by rw [ntF_n (by unfold lnAdds; omega)]; exact hq) (ntF_le h0)
    have hS : rS u N x 3 0 (ntF q 3 (h 8) (tkS u N x : Nat)) (zup h2 35 22 1) 0 (zup h2 35 22 1) := rS_g c2 a2 q2 l2
    have e8 : (zup h2 35 22 1) 8 = h 8 := by
      funext j
      rw [zup_ne (by omega), f2 8 j (by omega)]
    have e20 : (zup h2 35 22 1) 35 20 = h 35 20 := by rw [zup_ne (by omega), f2 35 20 (by omega)]
    have e21 : (zup h2 35 22 1) 35 21 = h 35 21 := by rw [zup_ne (by omega), f2 35 21 (by omega)]
    have pp : pF h (zup h2 35 22 1) := pF.up (fun a j w => by rw [f2 a j (by omega)]) (by omega)
    rw [e_X12_seaLine, if_neg (by decide), if_neg (by decide), if_neg (by decide), if_pos rfl, e_X12_seaLine_61, if_neg (by decide), if_neg (by decide), e_X12_seaLine_96, r2, xb_some, if_neg (by decide), if_neg (by decide), if_pos rfl]
    obtain ⟨y1, y2⟩ := coast_e (n := n) hn hx hS (zup_at _ _ _ _) (by rw [e8]; exact hB)
    refine ⟨fun hK3 => ?_, fun i hi hKi hj => ?_⟩
    · obtain ⟨g, g1, g2⟩ := y1 hK3
      exact ⟨g, by rw [g1, xb_some, xg_pos (by decide)], g2.back e8 e20 e21 pp⟩
    · obtain ⟨g, g1, g2⟩ := y2 i hi hKi hj
      exact ⟨g, by rw [g1, xb_some, xg_pos (by decide)], g2.back pp⟩
  · rw [show lnW.getD 4 0 = 495673368940 from rfl]
    obtain ⟨h1, r1, q1, f1⟩ := @full_e n h 5 4 (tkS u N x : Nat) q hc.2.2.2 (by decide) hq h0 (lnAdds 4 ∧ h 8 (lnC 4) = lnM 4) (Classical.propDecidable _) ⟨fun w => w.2, fun w => ⟨by unfold lnAdds; omega, w⟩⟩
    have q1 : rN h1 (ntF q 4 (h 8) (tkS u N x : Nat)) := q1
    have a1 : tokA u N x h1 := by
      obtain ⟨a1, a2, a3, a4, a5⟩ := hA
      exact ⟨by rw [f1 35 9 (by omega)]; exact a1, by rw [f1 35 11 (by omega)]; exact a2, by rw [f1 35 12 (by omega)]; exact a3, fun w => by rw [f1 35 13 (by omega)]; exact a4 w, fun w => by rw [f1 35 14 (by omega)]; exact a5 w⟩
    have c1 : rC u N h1 := ⟨by
        rw [← hc.1]
        funext i
        unfold uR
        rw [f1 0 i (by omega)], by rw [f1 35 10 (by omega)]; exact hc.2.1, hc.2.2.1, hc.2.2.2.fr (fun j hj => f1 35 j (by omega))⟩
    obtain ⟨h2, r2, c2, a2, q2, l2, f2⟩ := start_e (n := n) hn hx c1 a1 hK q1 (ntF_le h0)
    have hS : rS u N x 4 0 (ntF q 4 (h 8) (tkS u N x : Nat)) (zup h2 35 22 1) 0 (zup h2 35 22 1) := rS_g c2 a2 q2 l2
    have e8 : (zup h2 35 22 1) 8 = h 8 := by
      funext j
      rw [zup_ne (by omega), f2 8 j (by omega), f1 8 j (by omega)]
    have e20 : (zup h2 35 22 1) 35 20 = h 35 20 := by rw [zup_ne (by omega), f2 35 20 (by omega), f1 35 20 (by omega)]
    have e21 : (zup h2 35 22 1) 35 21 = h 35 21 := by rw [zup_ne (by omega), f2 35 21 (by omega), f1 35 21 (by omega)]
    have pp : pF h (zup h2 35 22 1) := pF.up (fun a j w => by rw [f2 a j (by omega), f1 a j (by omega)]) (by omega)
    have er : f_X12_full n [35, 5, 4, (tkS u N x : Nat)] h = some (0, h1) := r1
    rw [e_X12_seaLine, if_neg (by decide), if_neg (by decide), if_neg (by decide), if_neg (by decide), if_pos rfl, e_X12_seaLine_61, if_pos rfl, er, xb_some, e_X12_seaLine_96, r2, xb_some, if_pos rfl]
    obtain ⟨y1, y2⟩ := shoal_e (n := n) hn hx hS (by rw [e20]; exact hb20) (by rw [e8]; exact hB)
    refine ⟨fun hK3 => ?_, fun i hi hKi hj => ?_⟩
    · obtain ⟨g, g1, g2⟩ := y1 hK3
      exact ⟨g, by rw [g1, xb_some, xg_pos (by decide)], g2.back e8 e20 e21 pp⟩
    · obtain ⟨g, g1, g2⟩ := y2 i hi hKi hj
      exact ⟨g, by rw [g1, xb_some, xg_pos (by decide)], g2.back pp⟩
  · rw [show lnW.getD 5 0 = 1651466612 from rfl]
    obtain ⟨h1, r1, q1, f1⟩ := @full_e n h 6 6 (tkS u N x : Nat) q hc.2.2.2 (by decide) hq h0 (lnAdds 5 ∧ h 8 (lnC 5) = lnM 5) (Classical.propDecidable _) ⟨fun w => w.2, fun w => ⟨by unfold lnAdds; omega, w⟩⟩
    have q1 : rN h1 (ntF q 5 (h 8) (tkS u N x : Nat)) := q1
    have a1 : tokA u N x h1 := by
      obtain ⟨a1, a2, a3, a4, a5⟩ := hA
      exact ⟨by rw [f1 35 9 (by omega)]; exact a1, by rw [f1 35 11 (by omega)]; exact a2, by rw [f1 35 12 (by omega)]; exact a3, fun w => by rw [f1 35 13 (by omega)]; exact a4 w, fun w => by rw [f1 35 14 (by omega)]; exact a5 w⟩
    have c1 : rC u N h1 := ⟨by
        rw [← hc.1]
        funext i
        unfold uR
        rw [f1 0 i (by omega)], by rw [f1 35 10 (by omega)]; exact hc.2.1, hc.2.2.1, hc.2.2.2.fr (fun j hj => f1 35 j (by omega))⟩
    obtain ⟨h2, r2, c2, a2, q2, l2, f2⟩ := start_e (n := n) hn hx c1 a1 hK q1 (ntF_le h0)
    have hS : rS u N x 5 0 (ntF q 5 (h 8) (tkS u N x : Nat)) (zup h2 35 22 1) 0 (zup h2 35 22 1) := rS_g c2 a2 q2 l2
    have e8 : (zup h2 35 22 1) 8 = h 8 := by
      funext j
      rw [zup_ne (by omega), f2 8 j (by omega), f1 8 j (by omega)]
    have e20 : (zup h2 35 22 1) 35 20 = h 35 20 := by rw [zup_ne (by omega), f2 35 20 (by omega), f1 35 20 (by omega)]
    have e21 : (zup h2 35 22 1) 35 21 = h 35 21 := by rw [zup_ne (by omega), f2 35 21 (by omega), f1 35 21 (by omega)]
    have pp : pF h (zup h2 35 22 1) := pF.up (fun a j w => by rw [f2 a j (by omega), f1 a j (by omega)]) (by omega)
    have er : f_X12_full n [35, 6, 6, (tkS u N x : Nat)] h = some (0, h1) := r1
    rw [e_X12_seaLine, if_neg (by decide), if_neg (by decide), if_neg (by decide), if_neg (by decide), if_neg (by decide), if_pos rfl, e_X12_seaLine_61, if_neg (by decide), if_pos rfl, er, xb_some, e_X12_seaLine_96, r2, xb_some, if_neg (by decide), if_pos rfl]
    obtain ⟨y1, y2⟩ := boat_e (n := n) hn hx hS (by rw [e20]; exact hb20) (by rw [e8]; exact hB)
    refine ⟨fun hK3 => ?_, fun i hi hKi hj => ?_⟩
    · obtain ⟨g, g1, g2⟩ := y1 hK3
      exact ⟨g, by rw [g1, xb_some, xg_pos (by decide)], g2.back e8 e20 e21 pp⟩
    · obtain ⟨g, g1, g2⟩ := y2 i hi hKi hj
      exact ⟨g, by rw [g1, xb_some, xg_pos (by decide)], g2.back pp⟩
  · rw [show lnW.getD 6 0 = 1684365670 from rfl]
    obtain ⟨h2, r2, c2, a2, q2, l2, f2⟩ := start_e (n := n) (q := ntF q 6 (h 8) (tkS u N x : Nat)) hn hx hc hA hK (by rw [ntF_n (by unfold lnAdds; omega)]; exact hq) (ntF_le h0)
    have hS : rS u N x 6 0 (ntF q 6 (h 8) (tkS u N x : Nat)) (zup h2 35 22 1) 0 (zup h2 35 22 1) := rS_g c2 a2 q2 l2
    have e8 : (zup h2 35 22 1) 8 = h 8 := by
      funext j
      rw [zup_ne (by omega), f2 8 j (by omega)]
    have e20 : (zup h2 35 22 1) 35 20 = h 35 20 := by rw [zup_ne (by omega), f2 35 20 (by omega)]
    have e21 : (zup h2 35 22 1) 35 21 = h 35 21 := by rw [zup_ne (by omega), f2 35 21 (by omega)]
    have pp : pF h (zup h2 35 22 1) := pF.up (fun a j w => by rw [f2 a j (by omega)]) (by omega)
    rw [e_X12_seaLine, if_neg (by decide), if_neg (by decide), if_neg (by decide), if_neg (by decide), if_neg (by decide), if_neg (by decide), if_pos rfl, e_X12_seaLine_61, if_neg (by decide), if_neg (by decide), e_X12_seaLine_96, r2, xb_some, if_neg (by decide), if_neg (by decide), if_neg (by decide), if_neg (by decide), if_neg (by decide)]
    obtain ⟨y1, y2⟩ := deaf_e (n := n) (p := (tkS u N x : Nat)) hn hx hS (by rw [e21]; exact hb21) (by rw [e8]; exact hB)
    refine ⟨fun hK3 => ?_, fun i hi hKi hj => ?_⟩
    · obtain ⟨g, g1, g2⟩ := y1 hK3
      exact ⟨g, by rw [g1], g2.back e8 e20 e21 pp⟩
    · obtain ⟨g, g1, g2⟩ := y2 i hi hKi hj
      exact ⟨g, by rw [g1], g2.back pp⟩
theorem seaLine_n {n : Nat} {w p : Int} {h : yH} (hw : ∀ ln, ln < 7 → w ≠ lnW.getD ln 0) : f_X12_seaLine n [35, w, p] h = some (0, zup h 35 15 (h 35 11)) := by
  rw [e_X12_seaLine, if_neg (show ¬ w = 1936292453 from hw 0 (by decide)), if_neg (show ¬ w = 2003398244 from hw 1 (by decide)), if_neg (show ¬ w = 1852142707 from hw 2 (by decide)), if_neg (show ¬ w = 427070419828 from hw 3 (by decide)), if_neg (show ¬ w = 495673368940 from hw 4 (by decide)), if_neg (show ¬ w = 1651466612 from hw 5 (by decide)), if_neg (show ¬ w = 1684365670 from hw 6 (by decide)), fails_e, xb_some, xg_pos (by decide)]
