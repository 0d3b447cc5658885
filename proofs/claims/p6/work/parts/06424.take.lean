/-! the reference: numbers of a line -/
/-- where the arrays are that are used here -/
def rP (h : yH) : Prop := h 35 1 = 0 ∧ h 35 2 = 1 ∧ h 35 3 = 2 ∧ h 35 4 = 3 ∧ h 35 5 = 4 ∧ h 35 6 = 5 ∧ h 35 7 = 6 ∧ h 35 8 = 7 ∧ h 35 18 = 8 ∧ h 35 19 = 9
theorem rP.fr {h h2 : yH} (hp : rP h) (hf : ∀ j, (1 ≤ j ∧ j ≤ 8) ∨ j = 18 ∨ j = 19 → h2 35 j = h 35 j) : rP h2 := by
  obtain ⟨p1, p2, p3, p4, p5, p6, p7, p8, p18, p19⟩ := hp
  exact ⟨(hf 1 (by omega)).trans p1, (hf 2 (by omega)).trans p2, (hf 3 (by omega)).trans p3, (hf 4 (by omega)).trans p4, (hf 5 (by omega)).trans p5, (hf 6 (by omega)).trans p6, (hf 7 (by omega)).trans p7, (hf 8 (by omega)).trans p8, (hf 18 (by omega)).trans p18, (hf 19 (by omega)).trans p19⟩
theorem rP.up {h : yH} {a j : Nat} {x : Int} (hp : rP h) (hf : ¬ (a = 35 ∧ ((1 ≤ j ∧ j ≤ 8) ∨ j = 18 ∨ j = 19))) : rP (zup h a j x) := hp.fr (fun i hi => zup_ne (by omega))
/-- the fault that is noted -/
def rN (h : yH) (q : Int × Int) : Prop := h 35 16 = q.1 ∧ (q.1 ≠ 0 → h 35 17 = q.2) ∧ 0 ≤ q.1 ∧ q.1 ≤ 4
theorem later_e {n : Nat} {h : yH} {f p : Int} {q : Int × Int} (hq : rN h q) (h0 : q.1 = 0 ∨ q.2 < p) (hf : 0 < f ∧ f ≤ 4) : f_X12_later n [35, f, p] h = some (0, if q.1 = 0 then zup (zup h 35 16 f) 35 17 p else h) ∧ rN (if q.1 = 0 then zup (zup h 35 16 f) 35 17 p else h) (nt q True f p) := by
  obtain ⟨q1, q2, q3, q4⟩ := hq
  by_cases hz : q.1 = 0
  · rw [e_X12_later, if_pos (by omega), xg_pos (by omega), if_pos hz, nt_t hz trivial]
    exact ⟨rfl, by rw [zup_ne (by omega), zup_at], fun _ => zup_at _ _ _ _, by simp only; omega, by simp only; omega⟩
  · have := q2 hz
    rw [e_X12_later, if_neg (by omega), if_neg (by omega), if_neg (by omega), if_neg hz, nt_n hz]
    exact ⟨rfl, q1, q2, q3, q4⟩
/-- a number is taken: cells that change -/
def tkF (k : Nat) (h h2 : yH) : Prop := ∀ a j, ¬ (a = 35 ∧ (j = 9 ∨ (11 ≤ j ∧ j ≤ 14) ∨ j = 16 ∨ j = 17 ∨ j = 22)) → ¬ (a = 9 ∧ j = k) → h2 a j = h a j
theorem tkF.rp {k : Nat} {h h2 : yH} (hf : tkF k h h2) (hp : rP h) : rP h2 := hp.fr (fun j hj => hf 35 j (by omega) (by omega))
theorem tkF.u {k : Nat} {h h2 : yH} (hf : tkF k h h2) : uR h2 = uR h := by
  funext i
  unfold uR
  rw [hf 0 i (by omega) (by omega)]
/-- what the walks over a text stand on -/
def rC (u : Nat → Int) (N : Nat) (h : yH) : Prop := uR h = u ∧ h 35 10 = (N : Int) ∧ N ≤ 600 ∧ rP h
theorem tkF.c {k : Nat} {h h2 : yH} {u : Nat → Int} {N : Nat} (hf : tkF k h h2) (hc : rC u N h) : rC u N h2 := ⟨hf.u.trans hc.1, (hf 35 10 (by omega) (by omega)).trans hc.2.1, hc.2.2.1, hf.rp hc.2.2.2⟩
theorem rC.up {u : Nat → Int} {N : Nat} {h : yH} {a j : Nat} {x : Int} (hc : rC u N h) (ha : a ≠ 0) (hf : ¬ (a = 35 ∧ ((1 ≤ j ∧ j ≤ 8) ∨ j = 10 ∨ j = 18 ∨ j = 19))) : rC u N (zup h a j x) :=
  ⟨(uR_up ha).trans hc.1, by rw [zup_ne (by omega)]; exact hc.2.1, hc.2.2.1, hc.2.2.2.up (by omega)⟩
theorem tkV_b {u : Nat → Int} {N x : Nat} (hk : tkK u N x = 3) : 0 ≤ tkV u N x ∧ tkV u N x ≤ 99 := by
  unfold tkK at hk
  split at hk
  · omega
  · split at hk
    · omega
    · rename_i hS hL
      split at hk
      · rename_i hD
        unfold tkV
        have hE : tkE u N x = tGo tD u N (tkS u N x) := by unfold tkE; rw [if_neg hS, if_neg hL, if_pos hD]
        rw [hE]
        exact tDg_99 (fun i hi => tD_i.mp (tGo_all (f := tD) (u := u) (n := N) (r := tkS u N x) (by omega) (by omega)).2)
      · split at hk <;> omega
theorem takeBut_n {u : Nat → Int} {N x n : Nat} {h : yH} {k lo hi but : Int} (hA : tokA u N x h) (hK : tkK u N x ≠ 3) : f_X12_takeBut n [35, k, lo, hi, but] h = some (0, zup h 35 15 (tkS u N x : Nat)) := by
  rw [e_X12_takeBut, if_neg (by rw [hA.2.2.1]; omega), fails_e, xb_some, xg_pos (by decide), hA.2.1]
theorem takeBut_t {u : Nat → Int} {N x n : Nat} {h : yH} {lo hi but : Int} {k : Nat} {q : Int × Int} (hn : 1400 ≤ n) (hc : rC u N h) (hx : x ≤ N) (hA : tokA u N x h) (hK : tkK u N x = 3) (hk : k < 5) (hq : rN h q) (hp : q.1 = 0 ∨ q.2 < (tkS u N x : Nat)) {B : Prop} [Decidable B] (hB : B ↔ ¬ (lo ≤ tkV u N x ∧ tkV u N x ≤ hi) ∨ tkV u N x = but) :
    ∃ h2, f_X12_takeBut n [35, (k : Int), lo, hi, but] h = some (1, h2) ∧ tokA u N (tkE u N x) h2 ∧ h2 9 k = tkV u N x ∧ rN h2 (nt q B 2 (tkS u N x : Nat)) ∧ h2 35 22 = (if B then 0 else h 35 22) ∧ tkF k h h2 := by
  have hV := hA.2.2.2.1 hK
  have hb := tkV_b hK
  have hE := @tkE_n u N x hx
  obtain ⟨c1, c2, c3, c4⟩ := hc
  have p1 := c4.1
  have p19 : h 35 19 = 9 := c4.2.2.2.2.2.2.2.2.2
  rw [e_X12_takeBut, if_pos (by rw [hA.2.2.1]; omega), xg_pos p19, xg_pos (by omega), xg_pos (by omega), Int.toNat_natCast, hV]
  -- behind the range and the number that must not be
  have fin0 : ∀ h1 : yH, uR h1 = u → h1 35 1 = 0 → h1 35 10 = (N : Int) → h1 35 9 = (tkE u N x : Nat) → (∀ a j, ¬ (a = 35 ∧ (j = 16 ∨ j = 17 ∨ j = 22)) → ¬ (a = 9 ∧ j = k) → h1 a j = h a j) → h1 9 k = tkV u N x → rN h1 (nt q B 2 (tkS u N x : Nat)) → h1 35 22 = (if B then 0 else h 35 22) →
      ∃ h2, xb (f_X12_token n [35] h1) (fun _ h3 => some (1, h3)) = some (1, h2) ∧ tokA u N (tkE u N x) h2 ∧ h2 9 k = tkV u N x ∧ rN h2 (nt q B 2 (tkS u N x : Nat)) ∧ h2 35 22 = (if B then 0 else h 35 22) ∧ tkF k h h2 := by
    intro h1 a1 a2 a3 a4 a5 a6 a7 a8
    obtain ⟨h2, r0, r1, r2⟩ := token_e (n := n) hn c3 a1 a2 a3 a4 hE
    rw [r0, xb_some]
    refine ⟨h2, rfl, r1, by rw [r2 9 k (by omega)]; exact a6, ?_, by rw [r2 35 22 (by omega)]; exact a8, fun a j w1 w2 => by rw [r2 a j (by omega)]; exact a5 a j (by omega) w2⟩
    obtain ⟨b1, b2, b3, b4⟩ := a7
    exact ⟨by rw [r2 35 16 (by omega)]; exact b1, fun w => by rw [r2 35 17 (by omega)]; exact b2 w, b3, b4⟩
  have q1 : rN (zup h 9 k (tkV u N x)) q := by
    obtain ⟨b1, b2, b3, b4⟩ := hq
    exact ⟨by rw [zup_ne (by omega)]; exact b1, fun w => by rw [zup_ne (by omega)]; exact b2 w, b3, b4⟩
  have e11 : zup h 9 k (tkV u N x) 35 11 = (tkS u N x : Nat) := by rw [zup_ne (by omega)]; exact hA.2.1
  have e13 : zup h 9 k (tkV u N x) 35 13 = tkV u N x := by rw [zup_ne (by omega)]; exact hV
  have bad : B → ∃ h2, xb (f_X12_later n [35, 2, (zup h 9 k (tkV u N x)) 35 11] (zup h 9 k (tkV u N x))) (fun _ h2 => xb (f_X12_token n [35] (zup h2 35 22 0)) (fun _ h3 => some (1, h3))) = some (1, h2) ∧ tokA u N (tkE u N x) h2 ∧ h2 9 k = tkV u N x ∧ rN h2 (nt q B 2 (tkS u N x : Nat)) ∧ h2 35 22 = (if B then 0 else h 35 22) ∧ tkF k h h2 := by
    intro hb9
    obtain ⟨l1, l2⟩ := later_e (n := n) (f := 2) (p := (tkS u N x : Nat)) q1 hp (by decide)
    rw [e11, l1, xb_some]
    have hnt : nt q True 2 (tkS u N x : Nat) = nt q B 2 (tkS u N x : Nat) := by
      unfold nt
      by_cases hz : q.1 = 0
      · rw [if_pos ⟨hz, trivial⟩, if_pos ⟨hz, hb9⟩]
      · rw [if_neg (fun w => hz w.1), if_neg (fun w => hz w.1)]
    rw [hnt] at l2
    have hG : ∀ a j, ¬ (a = 35 ∧ (j = 16 ∨ j = 17)) → (if q.1 = 0 then zup (zup (zup h 9 k (tkV u N x)) 35 16 2) 35 17 (tkS u N x : Nat) else zup h 9 k (tkV u N x)) a j = zup h 9 k (tkV u N x) a j := by
      intro a j w
      split
      · rw [zup_ne (by omega), zup_ne (by omega)]
      · rfl
    refine fin0 _ ?_ ?_ ?_ ?_ ?_ ?_ ?_ ?_
    · rw [uR_up (by decide)]
      split
      · rw [uR_up (by decide), uR_up (by decide), uR_up (by decide)]; exact c1
      · rw [uR_up (by decide)]; exact c1
    · rw [zup_ne (by omega), hG _ _ (by omega), zup_ne (by omega)]; exact p1
    · rw [zup_ne (by omega), hG _ _ (by omega), zup_ne (by omega)]; exact c2
    · rw [zup_ne (by omega), hG _ _ (by omega), zup_ne (by omega)]; exact hA.1
    · intro a j w1 w2
      rw [zup_ne (by omega), hG _ _ (by omega), zup_ne (by omega)]
    · rw [zup_ne (by omega), hG _ _ (by omega), zup_at]
    · obtain ⟨b1, b2, b3, b4⟩ := l2
      exact ⟨by rw [zup_ne (by omega)]; exact b1, fun w => by rw [zup_ne (by omega)]; exact b2 w, b3, b4⟩
    · rw [zup_at, if_pos hb9]
  by_cases hr : lo ≤ tkV u N x ∧ tkV u N x ≤ hi
  · rw [in_t hr, xb_some, if_neg (by decide)]
    by_cases hbt : tkV u N x = but
    · rw [e13, if_pos hbt]
      exact bad (hB.mpr (Or.inr hbt))
    · rw [e13, if_neg hbt]
      have hnb : ¬ B := fun w => by
        rcases hB.mp w with w | w
        · exact w hr
        · exact hbt w
      refine fin0 _ ?_ ?_ ?_ ?_ ?_ ?_ ?_ ?_
      · rw [uR_up (by decide)]; exact c1
      · rw [zup_ne (by omega)]; exact p1
      · rw [zup_ne (by omega)]; exact c2
      · rw [zup_ne (by omega)]; exact hA.1
      · intro a j w1 w2
        rw [zup_ne (by omega)]
      · rw [zup_at]
      · rw [nt_f hnb]; exact q1
      · rw [zup_ne (by omega), if_neg hnb]
  · rw [in_f hr, xb_some, if_pos rfl]
    exact bad (hB.mpr (Or.inl hr))
