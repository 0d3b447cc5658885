section
/-! the reference: numbers of a line -/
/-- where the arrays are that are used here -/
def rP (h : yH) : Prop := h 35 1 = 0 ∧ h 35 2 = 1 ∧ h 35 3 = 2 ∧ h 35 4 = 3 ∧ h 35 5 = 4 ∧ h 35 6 = 5 ∧ h 35 7 = 6 ∧ h 35 8 = 7 ∧ h 35 18 = 8 ∧ h 35 19 = 9
theorem rP.fr {h h2 : yH} (hp : rP h) (hf : ∀ j, (1 ≤ j ∧ j ≤ 8) ∨ j = 18 ∨ j = 19 → h2 35 j = h 35 j) : rP h2 := by
  obtain ⟨p1, p2, p3, p4, p5, p6, p7, p8, p18, p19⟩ := hp
  exact ⟨(hf 1 (by omega)).trans p1, (hf 2 (by omega)).trans p2, (hf 3 (by omega)).trans p3, (hf 4 (by omega)).trans p4, (hf 5 (by omega)).trans p5, (hf 6 (by omega)).trans p6, (hf 7 (by omega)).trans p7, (hf 8 (by omega)).trans p8, (hf 18 (by omega)).trans p18, (hf 19 (by omega)).trans p19⟩
theorem rP.up {h : yH} {a j : Nat} {x : Int} (hp : rP h) (hf : ¬ (a = 35 ∧ ((1 ≤ j ∧ j ≤ 8) ∨ j = 18 ∨ j = 19))) : rP (zup h a j x) := hp.fr (fun i hi => zup_ne (by omega))
/-- the fault that is noted -/
def rN (h : yH) (q : Int × Int) : Prop := h 35 16 = q.1 ∧ (q.1 ≠ 0 → h 35 17 = q.2) ∧ 0 ≤ q.1 ∧ q.1 ≤ 4
theorem later_e {n : Nat} {h : yH} {f p : Int} {q : Int × Int} (hq : rN h q) (h0 : q.1 = 0 ∨ q.2 < p) (hf : 0 < f ∧ f ≤ 4) : f_X12_later n [35, f, p] h = some (0, if q.1 = 0 then zup (zup h 35 16 f) 35 17 p else h) ∧ rN (if q.1 = 0 then zup (zup h 35 16 f) 35 17 p else h) (nt q True f p) := by
  obtain ⟨q1, q2, q3, q4⟩ := hq
  by_cases hz : q.1 = 0
  · rw [e_X12_later, if_pos (by omega), xg_pos (by omega), if_pos hz, nt_t hz trivial]
    exact ⟨rfl, by rw [zup_ne (by omega), zup_at], fun _ => zup_at _ _ _ _, by simp only; omega, by simp only; omega⟩
  · have := q2 hz
    rw [e_X12_later, if_neg (by omega), if_neg (by omega), if_neg (by omega), if_neg hz, nt_n hz]
    exact ⟨rfl, q1, q2, q3, q4⟩
/-- a number is taken: cells that change -/
def tkF (k : Nat) (h h2 : yH) : Prop := ∀ a j, ¬ (a = 35 ∧ (j = 9 ∨ (11 ≤ j ∧ j ≤ 14) ∨ j = 16 ∨ j = 17 ∨ j = 22)) → ¬ (a = 9 ∧ j = k) → h2 a j = h a j
theorem tkF.rp {k : Nat} {h h2 : yH} (hf : tkF k h h2) (hp : rP h) : rP h2 := hp.fr (fun j hj => hf 35 j (by omega) (by omega))
theorem tkF.u {k : Nat} {h h2 : yH} (hf : tkF k h h2) : uR h2 = uR h := by
  funext i
  unfold uR
  rw [hf 0 i (by omega) (by omega)]
/-- what the walks over a text stand on -/
def rC (u : Nat → Int) (N : Nat) (h : yH) : Prop := uR h = u ∧ h 35 10 = (N : Int) ∧ N ≤ 600 ∧ rP h
theorem tkF.c {k : Nat} {h h2 : yH} {u : Nat → Int} {N : Nat} (hf : tkF k h h2) (hc : rC u N h) : rC u N h2 := ⟨hf.u.trans hc.1, (hf 35 10 (by omega) (by omega)).trans hc.2.1, hc.2.2.1, hf.rp hc.2.2.2⟩
theorem rC.up {u : Nat → Int} {N : Nat} {h : yH} {a j : Nat} {x : Int} (hc : rC u N h) (ha : a ≠ 0) (hf : ¬ (a = 35 ∧ ((1 ≤ j ∧ j ≤ 8) ∨ j = 10 ∨ j = 18 ∨ j = 19))) : rC u N (zup h a j x) :=
  ⟨(uR_up ha).trans hc.1, by rw [zup_ne (by omega)]; exact hc.2.1, hc.2.2.1, hc.2.2.2.up (by omega)⟩
theorem tkV_b {u : Nat → Int} {N x : Nat} (hk : tkK u N x = 3) : 0 ≤ tkV u N x ∧ tkV u N x ≤ 99 := by
  unfold tkK at hk
  split at hk
  · omega
  · split at hk
    · omega
    · rename_i hS hL
      split at hk
      · rename_i hD
        unfold tkV
        have hE : tkE u N x = tGo tD u N (tkS u N x) := by unfold tkE; rw [if_neg hS, if_neg hL, if_pos hD]
        rw [hE]
        exact tDg_99 (fun i hi => tD_i.mp (tGo_all (f := tD) (u := u) (n := N) (r := tkS u N x) (by omega) (by omega)).2)
      · split at hk <;> omega
theorem takeBut_n {u : Nat → Int} {N x n : Nat} {h : yH} {k lo hi but : Int} (hA : tokA u N x h) (hK : tkK u N x ≠ 3) : f_X12_takeBut n [35, k, lo, hi, but] h = some (0, zup h 35 15 (tkS u N x : Nat)) := by
  rw [e_X12_takeBut, if_neg (by rw [hA.2.2.1]; omega), fails_e, xb_some, xg_pos (by decide), hA.2.1]
theorem takeBut_t {u : Nat → Int} {N x n : Nat} {h : yH} {lo hi but : Int} {k : Nat} {q : Int × Int} (hn : 1400 ≤ n) (hc : rC u N h) (hx : x ≤ N) (hA : tokA u N x h) (hK : tkK u N x = 3) (hk : k < 5) (hq : rN h q) (hp : q.1 = 0 ∨ q.2 < (tkS u N x : Nat)) {B : Prop} [Decidable B] (hB : B ↔ ¬ (lo ≤ tkV u N x ∧ tkV u N x ≤ hi) ∨ tkV u N x = but) :
    ∃ h2, f_X12_takeBut n [35, (k : Int), lo, hi, but] h = some (1, h2) ∧ tokA u N (tkE u N x) h2 ∧ h2 9 k = tkV u N x ∧ rN h2 (nt q B 2 (tkS u N x : Nat)) ∧ h2 35 22 = (if B then 0 else h 35 22) ∧ tkF k h h2 := by
  have hV := hA.2.2.2.1 hK
  have hb := tkV_b hK
  have hE := @tkE_n u N x hx
  obtain ⟨c1, c2, c3, c4⟩ := hc
  have p1 := c4.1
  have p19 : h 35 19 = 9 := c4.2.2.2.2.2.2.2.2.2
  rw [e_X12_takeBut, if_pos (by rw [hA.2.2.1]; omega), xg_pos p19, xg_pos (by omega), xg_pos (by omega), Int.toNat_natCast, hV]
  -- behind the range and the number that must not be
  have fin0 : ∀ h1 : yH, uR h1 = u → h1 35 1 = 0 → h1 35 10 = (N : Int) → h1 35 9 = (tkE u N x : Nat) → (∀ a j, ¬ (a = 35 ∧ (j = 16 ∨ j = 17 ∨ j = 22)) → ¬ (a = 9 ∧ j = k) → h1 a j = h a j) → h1 9 k = tkV u N x → rN h1 (nt q B 2 (tkS u N x : Nat)) → h1 35 22 = (if B then 0 else h 35 22) →
      ∃ h2, xb (f_X12_token n [35] h1) (fun _ h3 => some (1, h3)) = some (1, h2) ∧ tokA u N (tkE u N x) h2 ∧ h2 9 k = tkV u N x ∧ rN h2 (nt q B 2 (tkS u N x : Nat)) ∧ h2 35 22 = (if B then 0 else h 35 22) ∧ tkF k h h2 := by
    intro h1 a1 a2 a3 a4 a5 a6 a7 a8
    obtain ⟨h2, r0, r1, r2⟩ := token_e (n := n) hn c3 a1 a2 a3 a4 hE
    rw [r0, xb_some]
    refine ⟨h2, rfl, r1, by rw [r2 9 k (by omega)]; exact a6, ?_, by rw [r2 35 22 (by omega)]; exact a8, fun a j w1 w2 => by rw [r2 a j (by omega)]; exact a5 a j (by omega) w2⟩
    obtain ⟨b1, b2, b3, b4⟩ := a7
    exact ⟨by rw [r2 35 16 (by omega)]; exact b1, fun w => by rw [r2 35 17 (by omega)]; exact b2 w, b3, b4⟩
  have q1 : rN (zup h 9 k (tkV u N x)) q := by
    obtain ⟨b1, b2, b3, b4⟩ := hq
    exact ⟨by rw [zup_ne (by omega)]; exact b1, fun w => by rw [zup_ne (by omega)]; exact b2 w, b3, b4⟩
  have e11 : zup h 9 k (tkV u N x) 35 11 = (tkS u N x : Nat) := by rw [zup_ne (by omega)]; exact hA.2.1
  have e13 : zup h 9 k (tkV u N x) 35 13 = tkV u N x := by rw [zup_ne (by omega)]; exact hV
  have bad : B → ∃ h2, xb (f_X12_later n [35, 2, (zup h 9 k (tkV u N x)) 35 11] (zup h 9 k (tkV u N x))) (fun _ h2 => xb (f_X12_token n [35] (zup h2 35 22 0)) (fun _ h3 => some (1, h3))) = some (1, h2) ∧ tokA u N (tkE u N x) h2 ∧ h2 9 k = tkV u N x ∧ rN h2 (nt q B 2 (tkS u N x : Nat)) ∧ h2 35 22 = (if B then 0 else h 35 22) ∧ tkF k h h2 := by
    intro hb9
    obtain ⟨l1, l2⟩ := later_e (n := n) (f := 2) (p := (tkS u N x : Nat)) q1 hp (by decide)
    rw [e11, l1, xb_some]
    have hnt : nt q True 2 (tkS u N x : Nat) = nt q B 2 (tkS u N x : Nat) := by
      unfold nt
      by_cases hz : q.1 = 0
      · rw [if_pos ⟨hz, trivial⟩, if_pos ⟨hz, hb9⟩]
      · rw [if_neg (fun w => hz w.1), if_neg (fun w => hz w.1)]
    rw [hnt] at l2
    have hG : ∀ a j, ¬ (a = 35 ∧ (j = 16 ∨ j = 17)) → (if q.1 = 0 then zup (zup (zup h 9 k (tkV u N x)) 35 16 2) 35 17 (tkS u N x : Nat) else zup h 9 k (tkV u N x)) a j = zup h 9 k (tkV u N x) a j := by
      intro a j w
      split
      · rw [zup_ne (by omega), zup_ne (by omega)]
      · rfl
    refine fin0 _ ?_ ?_ ?_ ?_ ?_ ?_ ?_ ?_
    · rw [uR_up (by decide)]
      split
      · rw [uR_up (by decide), uR_up (by decide), uR_up (by decide)]; exact c1
      · rw [uR_up (by decide)]; exact c1
    · rw [zup_ne (by omega), hG _ _ (by omega), zup_ne (by omega)]; exact p1
    · rw [zup_ne (by omega), hG _ _ (by omega), zup_ne (by omega)]; exact c2
    · rw [zup_ne (by omega), hG _ _ (by omega), zup_ne (by omega)]; exact hA.1
    · intro a j w1 w2
      rw [zup_ne (by omega), hG _ _ (by omega), zup_ne (by omega)]
    · rw [zup_ne (by omega), hG _ _ (by omega), zup_at]
    · obtain ⟨b1, b2, b3, b4⟩ := l2
      exact ⟨by rw [zup_ne (by omega)]; exact b1, fun w => by rw [zup_ne (by omega)]; exact b2 w, b3, b4⟩
    · rw [zup_at, if_pos hb9]
  by_cases hr : lo ≤ tkV u N x ∧ tkV u N x ≤ hi
  · rw [in_t hr, xb_some, if_neg (by decide)]
    by_cases hbt : tkV u N x = but
    · rw [e13, if_pos hbt]
      exact bad (hB.mpr (Or.inr hbt))
    · rw [e13, if_neg hbt]
      have hnb : ¬ B := fun w => by
        rcases hB.mp w with w | w
        · exact w hr
        · exact hbt w
      refine fin0 _ ?_ ?_ ?_ ?_ ?_ ?_ ?_ ?_
      · rw [uR_up (by decide)]; exact c1
      · rw [zup_ne (by omega)]; exact p1
      · rw [zup_ne (by omega)]; exact c2
      · rw [zup_ne (by omega)]; exact hA.1
      · intro a j w1 w2
        rw [zup_ne (by omega)]
      · rw [zup_at]
      · rw [nt_f hnb]; exact q1
      · rw [zup_ne (by omega), if_neg hnb]
  · rw [in_f hr, xb_some, if_pos rfl]
    exact bad (hB.mpr (Or.inl hr))
end
section
/-! the reference: numbers of a line, one after the other -/
theorem tkE_ge {u : Nat → Int} {N x : Nat} : tkS u N x ≤ tkE u N x := by
  unfold tkE
  split
  · exact Nat.le_refl _
  · split
    · exact tGo_le
    · split
      · exact tGo_le
      · omega
theorem tkS_ge {u : Nat → Int} {N x : Nat} : x ≤ tkS u N x := tGo_le
theorem tkK_lt {u : Nat → Int} {N x : Nat} (h : tkK u N x ≠ 0) : tkS u N x < N := by
  unfold tkK at h
  split at h
  · exact absurd rfl h
  · omega
/-- places grow -/
theorem tkS_next {u : Nat → Int} {N x : Nat} (h : tkK u N x ≠ 0) : tkS u N x < tkS u N (tkE u N x) := Nat.lt_of_lt_of_le (tkE_gt (tkK_lt h)) tkS_ge
theorem tkN_n {u : Nat → Int} {N x : Nat} (hx : x ≤ N) : ∀ i, tkN u N x i ≤ N := by
  intro i
  induction i with
  | zero => exact hx
  | succ i ih => exact tkE_n ih
/-- the i-th number of a line, its place -/
def lv (u : Nat → Int) (N x : Nat) : Nat → Int := fun i => tkV u N (tkN u N x (i + 1))
def lp (u : Nat → Int) (N x : Nat) : Nat → Int := fun i => (tkS u N (tkN u N x (i + 1)) : Nat)
/-- cells of which a line's numbers are none: told all else -/
def sqF (off i : Nat) (h h2 : yH) : Prop := ∀ a j, ¬ (a = 35 ∧ (j = 9 ∨ (11 ≤ j ∧ j ≤ 14) ∨ j = 16 ∨ j = 17 ∨ j = 22)) → ¬ (a = 9 ∧ off ≤ j ∧ j < off + i) → h2 a j = h a j
/-- i numbers of a line are taken -/
def rS (u : Nat → Int) (N x ln off : Nat) (q0 : Int × Int) (h0 : yH) (i : Nat) (h : yH) : Prop :=
  rC u N h ∧ tokA u N (tkN u N x (i + 1)) h ∧ rN h (ntL ln (lv u N x) (lp u N x) q0 i) ∧ ((ntL ln (lv u N x) (lp u N x) q0 i).1 = 0 ∨ (ntL ln (lv u N x) (lp u N x) q0 i).2 < lp u N x i) ∧ (∀ j, j < i → h 9 (off + j) = lv u N x j ∧ 0 ≤ lv u N x j ∧ lv u N x j ≤ 99) ∧
  ((∀ j, j < i → ¬ lnB ln (lv u N x) j) → h 35 22 = h0 35 22) ∧ ((∃ j, j < i ∧ lnB ln (lv u N x) j) → h 35 22 = 0) ∧ sqF off i h0 h
theorem rS_0 {u : Nat → Int} {N x ln off : Nat} {q0 : Int × Int} {h0 : yH} (hc : rC u N h0) (hA : tokA u N (tkN u N x 1) h0) (hq : rN h0 q0) (hp : q0.1 = 0 ∨ q0.2 < lp u N x 0) : rS u N x ln off q0 h0 0 h0 :=
  ⟨hc, hA, hq, hp, fun j hj => by omega, fun _ => rfl, fun ⟨j, hj, _⟩ => by omega, fun _ _ _ _ => rfl⟩
theorem rS_f {u : Nat → Int} {N x ln off i n : Nat} {q0 : Int × Int} {h0 h : yH} {k lo hi but : Int} (hS : rS u N x ln off q0 h0 i h) (hK : tkK u N (tkN u N x (i + 1)) ≠ 3) : f_X12_takeBut n [35, k, lo, hi, but] h = some (0, zup h 35 15 (lp u N x i)) := takeBut_n hS.2.1 hK
theorem rS_t {u : Nat → Int} {N x ln off i n : Nat} {q0 : Int × Int} {h0 h : yH} {k lo hi but : Int} (hn : 1400 ≤ n) (hx : x ≤ N) (hS : rS u N x ln off q0 h0 i h) (hK : tkK u N (tkN u N x (i + 1)) = 3) (hk : k = ((off + i : Nat) : Int)) (hk5 : off + i < 5) (hB : lnB ln (lv u N x) i ↔ ¬ (lo ≤ lv u N x i ∧ lv u N x i ≤ hi) ∨ lv u N x i = but) :
    ∃ h2, f_X12_takeBut n [35, k, lo, hi, but] h = some (1, h2) ∧ rS u N x ln off q0 h0 (i + 1) h2 := by
  obtain ⟨hc, hA, hq, hp, hv, hg1, hg2, hF⟩ := hS
  subst hk
  obtain ⟨h2, r0, r1, r2, r3, r4, r5⟩ := @takeBut_t u N (tkN u N x (i + 1)) n h lo hi but (off + i) (ntL ln (lv u N x) (lp u N x) q0 i) hn hc (tkN_n hx _) hA hK hk5 hq hp (lnB ln (lv u N x) i) (Classical.propDecidable _) hB
  have hb := tkV_b hK
  refine ⟨h2, r0, r5.c hc, r1, r3, ?_, fun j hj => ?_, fun hb2 => ?_, fun ⟨j, hj, hb2⟩ => ?_, fun a j w1 w2 => ?_⟩
  · have hs := tkS_next (u := u) (N := N) (x := tkN u N x (i + 1)) (by omega)
    show (@nt _ _ (Classical.propDecidable _) 2 (lp u N x i)).1 = 0 ∨ (@nt _ _ (Classical.propDecidable _) 2 (lp u N x i)).2 < _
    have e1 : lp u N x i < lp u N x (i + 1) := by
      unfold lp
      show ((tkS u N (tkN u N x (i + 1)) : Nat) : Int) < ((tkS u N (tkE u N (tkN u N x (i + 1))) : Nat) : Int)
      omega
    unfold nt
    split
    · exact Or.inr e1
    · rcases hp with hp | hp
      · exact Or.inl hp
      · exact Or.inr (by omega)
  · by_cases e : j = i
    · subst e
      exact ⟨r2, hb⟩
    · have := hv j (by omega)
      rw [r5 9 (off + j) (by omega) (by omega)]
      exact this
  · rw [r4, if_neg (hb2 i (by omega))]
    exact hg1 (fun j hj => hb2 j (by omega))
  · rw [r4]
    by_cases hbi : lnB ln (lv u N x) i
    · rw [if_pos hbi]
    · rw [if_neg hbi]
      by_cases e : j = i
      · subst e
        exact absurd hb2 hbi
      · exact hg2 ⟨j, by omega, hb2⟩
  · rw [r5 a j w1 (by omega)]
    exact hF a j w1 (by omega)
/-- the same by take() -/
theorem take_f {u : Nat → Int} {N x ln off i n : Nat} {q0 : Int × Int} {h0 h : yH} {k lo hi : Int} (hS : rS u N x ln off q0 h0 i h) (hK : tkK u N (tkN u N x (i + 1)) ≠ 3) : f_X12_take n [35, k, lo, hi] h = some (0, zup h 35 15 (lp u N x i)) := by
  rw [e_X12_take, rS_f hS hK, xb_some, xg_pos (by decide)]
theorem take_t {u : Nat → Int} {N x ln off i n : Nat} {q0 : Int × Int} {h0 h : yH} {k lo hi : Int} (hn : 1400 ≤ n) (hx : x ≤ N) (hS : rS u N x ln off q0 h0 i h) (hK : tkK u N (tkN u N x (i + 1)) = 3) (hk : k = ((off + i : Nat) : Int)) (hk5 : off + i < 5) (hB : 0 ≤ lv u N x i → (lnB ln (lv u N x) i ↔ ¬ (lo ≤ lv u N x i ∧ lv u N x i ≤ hi))) :
    ∃ h2, f_X12_take n [35, k, lo, hi] h = some (1, h2) ∧ rS u N x ln off q0 h0 (i + 1) h2 := by
  have hb : 0 ≤ lv u N x i := (tkV_b hK).1
  obtain ⟨h2, r0, r1⟩ := rS_t (but := -1) hn hx hS hK hk hk5 (by
    rw [hB hb]
    exact ⟨Or.inl, fun w => w.resolve_right (by omega)⟩)
  exact ⟨h2, by rw [e_X12_take, r0, xb_some, xg_pos (by decide)], r1⟩
/-! a further one -/
theorem keep_l {n : Nat} {h : yH} {ct from_ wide most c : Nat} (h18 : h 35 18 = 8) (h19 : h 35 19 = 9) (hc : h 8 ct = (c : Int)) (hct : ct < from_) (hw : wide ≤ 5) (hm : from_ + wide * c + wide ≤ 121) (hc9 : c ≤ 98) (hv : ∀ i, i < wide → -1 ≤ h 9 i ∧ h 9 i ≤ 99) :
    ∀ (m i : Nat) (g : yH), wide - i = m → m < n → i ≤ wide → (∀ a j, g a j = if a = 8 ∧ from_ + wide * c ≤ j ∧ j < from_ + wide * c + i then h 9 (j - (from_ + wide * c)) else h a j) →
      ∃ h2, xl_X12_keep n 19 [35, (ct : Int), (from_ : Int), (wide : Int), (most : Int), (c : Int), (i : Int)] g = some (0, h2) ∧ ∀ a j, h2 a j = if a = 8 then (if j = ct then (c : Int) + 1 else if from_ + wide * c ≤ j ∧ j < from_ + wide * c + wide then h 9 (j - (from_ + wide * c)) else h 8 j) else h a j := by
  have hwc : ((wide : Int) * (c : Int)) = ((wide * c : Nat) : Int) := by rw [Int.natCast_mul]
  intro m
  generalize hW : wide * c = wc at *
  revert n
  induction m with
  | zero =>
    intro n i g e1 e2 hi hg
    obtain ⟨n, rfl⟩ : ∃ n', n = n' + 1 := ⟨n - 1, by omega⟩
    have g18 : g 35 18 = 8 := by rw [hg, if_neg (by omega)]; exact h18
    have gc : g 8 ct = (c : Int) := by rw [hg, if_neg (by omega)]; exact hc
    rw [e_X12_keep_19, if_neg (by omega), xg_pos g18, xg_pos (by omega), Int.toNat_natCast, gc, xg_pos (by omega), xg_pos (by omega), xg_pos (by omega)]
    refine ⟨_, rfl, fun a j => ?_⟩
    have ew : i = wide := by omega
    subst ew
    by_cases ha : a = 8
    · subst ha
      rw [if_pos rfl]
      by_cases hj : j = ct
      · subst hj
        rw [zup_at, if_pos rfl]
      · rw [zup_ne (by omega), hg, if_neg hj]
        by_cases hr : from_ + wc ≤ j ∧ j < from_ + wc + i
        · rw [if_pos ⟨rfl, hr⟩, if_pos hr]
        · rw [if_neg (fun w => hr w.2), if_neg hr]
    · rw [zup_ne (by omega), hg, if_neg (fun w => ha w.1), if_neg ha]
  | succ m ih =>
    intro n i g e1 e2 hi hg
    obtain ⟨n, rfl⟩ : ∃ n', n = n' + 1 := ⟨n - 1, by omega⟩
    have g18 : g 35 18 = 8 := by rw [hg, if_neg (by omega)]; exact h18
    have g19 : g 35 19 = 9 := by rw [hg, if_neg (by omega)]; exact h19
    have gi : g 9 i = h 9 i := by rw [hg, if_neg (by omega)]
    have hvi := hv i (by omega)
    rw [e_X12_keep_19, if_pos (by omega), xg_pos g18, hwc, xg_pos (by omega), xg_pos (by omega), xg_pos (by omega), xg_pos g19, xg_pos (by omega), xg_pos (by omega), Int.toNat_natCast, gi, xg_pos (by omega), xg_pos (by omega), show ((from_ : Int) + ((wc : Nat) : Int) + (i : Int)).toNat = from_ + wc + i by omega]
    refine ih (n := n) (i + 1) _ (by omega) (by omega) (by omega) (fun a j => ?_)
    by_cases hr : a = 8 ∧ j = from_ + wc + i
    · obtain ⟨rfl, rfl⟩ := hr
      rw [zup_at, if_pos (by omega), show from_ + wc + i - (from_ + wc) = i by omega]
    · rw [zup_ne hr, hg]
      by_cases hr2 : a = 8 ∧ from_ + wc ≤ j ∧ j < from_ + wc + i
      · rw [if_pos hr2, if_pos (by omega)]
      · rw [if_neg hr2, if_neg (by omega)]
theorem keep_e {n : Nat} {h : yH} {ct from_ wide most : Nat} (hn : 10 ≤ n) (hp : rP h) (hc0 : 0 ≤ h 8 ct) (hcm : h 8 ct ≤ (most : Int)) (hct : ct < from_) (hw : wide ≤ 5) (hm : from_ + wide * most ≤ 121) (hm9 : most ≤ 98) (hv : ∀ i, i < wide → -1 ≤ h 9 i ∧ h 9 i ≤ 99) :
    ∃ h2, f_X12_keep n [35, (ct : Int), (from_ : Int), (wide : Int), (most : Int)] h = some (0, h2) ∧ h2 8 = tK (h 8) ct from_ wide most (h 9) ∧ ∀ a j, a ≠ 8 → h2 a j = h a j := by
  have p18 : h 35 18 = 8 := hp.2.2.2.2.2.2.2.2.1
  have p19 : h 35 19 = 9 := hp.2.2.2.2.2.2.2.2.2
  obtain ⟨c, hc⟩ : ∃ c : Nat, h 8 ct = (c : Int) := ⟨(h 8 ct).toNat, by omega⟩
  have h1 : wide * c ≤ wide * most := Nat.mul_le_mul_left wide (by omega)
  rw [e_X12_keep, xg_pos p18, xg_pos (by omega), Int.toNat_natCast]
  by_cases hf : h 8 ct = (most : Int)
  · rw [if_pos hf]
    refine ⟨h, rfl, ?_, fun _ _ _ => rfl⟩
    unfold tK
    rw [if_pos hf]
  · rw [if_neg hf, hc]
    have h2 : wide * (c + 1) ≤ wide * most := Nat.mul_le_mul_left wide (by omega)
    rw [Nat.mul_succ] at h2
    obtain ⟨h2, r0, r1⟩ := keep_l (n := n) (most := most) p18 p19 hc hct hw (by omega) (by omega) hv wide 0 h (by omega) (by omega) (by omega) (fun a j => by rw [if_neg (by omega)])
    refine ⟨h2, r0, ?_, fun a j ha => by rw [r1, if_neg ha]⟩
    funext j
    rw [r1, if_pos rfl]
    unfold tK
    rw [if_neg hf, hc, Int.toNat_natCast]
end
section
/-! the reference: lines of a sea -/
/-- what is kept from call to call -/
def pF (h h2 : yH) : Prop := ∀ a j, a ≤ 7 ∨ a = 34 → h2 a j = h a j
theorem pF.rfl' {h : yH} : pF h h := fun _ _ _ => rfl
theorem pF.tr {h h1 h2 : yH} (f : pF h h1) (g : pF h1 h2) : pF h h2 := fun a j w => (g a j w).trans (f a j w)
theorem pF.up {h h1 : yH} {a j : Nat} {x : Int} (f : pF h h1) (ha : ¬ (a ≤ 7 ∨ a = 34)) : pF h (zup h1 a j x) := fun b i w => by
  rw [zup_ne (fun e => ha (by rw [← e.1]; exact w))]
  exact f b i w
theorem sqF.p {off i : Nat} {h h2 : yH} (f : sqF off i h h2) : pF h h2 := fun a j w => f a j (by omega) (by omega)
theorem tokF.p {h h2 : yH} (f : tokF h h2) : pF h h2 := fun a j w => f a j (by omega)
theorem tokF.c {u : Nat → Int} {N : Nat} {h h2 : yH} (f : tokF h h2) (hc : rC u N h) : rC u N h2 :=
  ⟨by
    rw [← hc.1]
    funext i
    unfold uR
    rw [f 0 i (by omega)], (f 35 10 (by omega)).trans hc.2.1, hc.2.2.1, hc.2.2.2.fr (fun j hj => f 35 j (by omega))⟩
/-- how many there are is within its bounds -/
def rB (of : Nat) (t : Nat → Int) : Prop := (of = 0 → (0 ≤ t 5 ∧ t 5 ≤ 4) ∧ (0 ≤ t 6 ∧ t 6 ≤ 6) ∧ 0 ≤ t 49 ∧ t 49 ≤ 63) ∧ (of = 1 → 0 ≤ t 0 ∧ t 0 ≤ 30) ∧ (of = 2 → (0 ≤ t 0 ∧ t 0 ≤ 9) ∧ 0 ≤ t 1 ∧ t 1 ≤ 16)
/-- a line is read -/
def lnD (u : Nat → Int) (N x of ln : Nat) (q0 : Int × Int) (h0 h2 : yH) : Prop :=
  rC u N h2 ∧ tokA u N (tkN u N x (lnN ln + 1)) h2 ∧ rN h2 (ntL ln (lv u N x) (lp u N x) q0 (lnN ln)) ∧ ((ntL ln (lv u N x) (lp u N x) q0 (lnN ln)).1 = 0 ∨ (ntL ln (lv u N x) (lp u N x) q0 (lnN ln)).2 < lp u N x (lnN ln)) ∧
  ((∀ j, j < lnN ln → ¬ lnB ln (lv u N x) j) → h2 8 = lnT ln (lv u N x) (h0 8)) ∧ rB of (h2 8) ∧ h2 35 20 = lnFc ln (lv u N x) (h0 35 20) ∧ h2 35 21 = lnFo ln (lv u N x) (h0 35 21) ∧ pF h0 h2
/-- a text breaks off -/
def lnX1 (p : Int) (h0 h2 : yH) : Prop := h2 35 15 = p ∧ rP h2 ∧ pF h0 h2
theorem rS.up {u : Nat → Int} {N x ln off i : Nat} {q0 : Int × Int} {h0 h : yH} {s : Nat} {y : Int} (hS : rS u N x ln off q0 h0 i h) (hs : s = 20 ∨ s = 21) : rS u N x ln off q0 (zup h0 35 s y) i (zup h 35 s y) := by
  obtain ⟨hc, hA, hq, hp, hv, hg1, hg2, hF⟩ := hS
  refine ⟨hc.up (by decide) (by omega), ?_, ?_, hp, fun j hj => ?_, fun w => ?_, fun w => ?_, fun a j w1 w2 => ?_⟩
  · obtain ⟨a1, a2, a3, a4, a5⟩ := hA
    exact ⟨by rw [zup_ne (by omega)]; exact a1, by rw [zup_ne (by omega)]; exact a2, by rw [zup_ne (by omega)]; exact a3, fun w => by rw [zup_ne (by omega)]; exact a4 w, fun w => by rw [zup_ne (by omega)]; exact a5 w⟩
  · obtain ⟨b1, b2, b3, b4⟩ := hq
    exact ⟨by rw [zup_ne (by omega)]; exact b1, fun w => by rw [zup_ne (by omega)]; exact b2 w, b3, b4⟩
  · rw [zup_ne (by omega)]
    exact hv j hj
  · rw [zup_ne (by omega), zup_ne (by omega)]
    exact hg1 w
  · rw [zup_ne (by omega)]
    exact hg2 w
  · rw [zup_app, zup_app, hF a j w1 w2]
theorem cell_f {u : Nat → Int} {N x ln n : Nat} {q0 : Int × Int} {h0 h : yH} (hS : rS u N x ln 0 q0 h0 0 h) (hK : tkK u N (tkN u N x 1) ≠ 3) (hb : -1 ≤ h0 35 20 ∧ h0 35 20 ≤ 99) : ∃ h2, f_X12_takeCell n [35, 0] h = some (0, h2) ∧ lnX1 (lp u N x 0) h0 h2 := by
  have e20 : h 35 20 = h0 35 20 := hS.2.2.2.2.2.2.2 35 20 (by omega) (by omega)
  rw [e_X12_takeCell, take_f hS hK, xb_some, if_pos rfl, zup_ne (by omega), e20, xg_pos hb, xg_pos (by decide)]
  refine ⟨_, rfl, by rw [zup_ne (by omega), zup_at], (hS.1.2.2.2.up (by omega)).up (by omega), (hS.2.2.2.2.2.2.2.p.up (by omega)).up (by omega)⟩
theorem cell_t {u : Nat → Int} {N x ln n : Nat} {q0 : Int × Int} {h0 h : yH} (hn : 1400 ≤ n) (hx : x ≤ N) (hS : rS u N x ln 0 q0 h0 0 h) (hK : tkK u N (tkN u N x 1) = 3) (hb : -1 ≤ h0 35 20 ∧ h0 35 20 ≤ 99) (hB : 0 ≤ lv u N x 0 → (lnB ln (lv u N x) 0 ↔ ¬ (0 ≤ lv u N x 0 ∧ lv u N x 0 ≤ 63))) :
    ∃ h2, f_X12_takeCell n [35, 0] h = some (1, h2) ∧ rS u N x ln 0 q0 (zup h0 35 20 (max (h0 35 20) (lv u N x 0))) 1 h2 := by
  obtain ⟨h1, r0, r1⟩ := take_t (k := 0) hn hx hS hK rfl (by decide) hB
  have e20 : h1 35 20 = h0 35 20 := r1.2.2.2.2.2.2.2 35 20 (by omega) (by omega)
  have e0 := r1.2.2.2.2.1 0 (by decide)
  have p19 : h1 35 19 = 9 := r1.1.2.2.2.2.2.2.2.2.2.2.2.2
  have e9 : h1 9 0 = lv u N x 0 := e0.1
  rw [e_X12_takeCell, r0, xb_some, if_neg (by decide), xg_pos p19, xg_pos (by decide), gr_e, xb_some, e20, show (0 : Int).toNat = 0 from rfl, e9, xg_pos (by omega), xg_pos (by decide)]
  exact ⟨_, rfl, r1.up (Or.inl rfl)⟩
theorem tK_congr {t : Nat → Int} {ct from_ wide most : Nat} {v w : Nat → Int} (h : ∀ i, i < wide → v i = w i) : tK t ct from_ wide most v = tK t ct from_ wide most w := by
  unfold tK
  split
  · rfl
  · funext i
    split
    · rfl
    · split
      · rename_i hr
        exact h _ (by omega)
      · rfl
theorem tK_ct {t : Nat → Int} {ct from_ wide most : Nat} {v : Nat → Int} (h0 : 0 ≤ t ct) (h1 : t ct ≤ (most : Int)) : 0 ≤ tK t ct from_ wide most v ct ∧ tK t ct from_ wide most v ct ≤ (most : Int) := by
  unfold tK
  split
  · exact ⟨h0, h1⟩
  · simp only [if_true]
    omega
theorem tK_lo {t : Nat → Int} {ct from_ wide most i : Nat} {v : Nat → Int} (h : i ≠ ct) (h1 : i < from_) : tK t ct from_ wide most v i = t i := by
  unfold tK
  split
  · rfl
  · simp only
    rw [if_neg h, if_neg (by omega)]
theorem tK_hi {t : Nat → Int} {ct from_ wide most i : Nat} {v : Nat → Int} (h0 : 0 ≤ t ct) (hc : t ct ≤ (most : Int)) (h : i ≠ ct) (h1 : from_ + wide * most ≤ i) : tK t ct from_ wide most v i = t i := by
  unfold tK
  split
  · rfl
  · rename_i hne
    have h2 : wide * ((t ct).toNat + 1) ≤ wide * most := Nat.mul_le_mul_left wide (by omega)
    rw [Nat.mul_succ] at h2
    simp only
    rw [if_neg h, if_neg (by omega)]
/-- a line with three numbers, a further one -/
theorem line3 {u : Nat → Int} {N x ln n ct from_ most : Nat} {q0 : Int × Int} {h0 h3 : yH} (hn : 1400 ≤ n) (hS : rS u N x ln 0 q0 (zup h0 35 20 (max (h0 35 20) (lv u N x 0))) 3 h3) (hln : lnN ln = 3) (hT : lnT ln = fun v t => tK t ct from_ 3 most v) (hc0 : 0 ≤ h0 8 ct ∧ h0 8 ct ≤ (most : Int)) (hct : ct < from_) (hm : from_ + 3 * most ≤ 49) (hB : rB 0 (h0 8)) (hcc : (ct = 5 ∧ most = 4 ∧ from_ = 19) ∨ (ct = 6 ∧ most = 6 ∧ from_ = 31)) (hf1 : ∀ c, lnFc ln (lv u N x) c = max c (lv u N x 0)) (hf2 : lnFo ln (lv u N x) = fun o => o) :
    ∃ h2, f_X12_keep n [35, (ct : Int), (from_ : Int), 3, (most : Int)] h3 = some (0, h2) ∧ lnD u N x 0 ln q0 h0 h2 := by
  obtain ⟨hc, hA, hq, hp, hv, hg1, hg2, hF⟩ := hS
  have e8 : h3 8 = h0 8 := by
    funext j
    rw [hF 8 j (by omega) (by omega), zup_ne (by omega)]
  obtain ⟨h2, r0, r1, r2⟩ := keep_e (n := n) (h := h3) (ct := ct) (from_ := from_) (wide := 3) (most := most) (by omega) hc.2.2.2 (by rw [e8]; exact hc0.1) (by rw [e8]; exact hc0.2) hct (by decide) (by omega) (by omega) (fun i hi => by
    have := hv i hi
    rw [Nat.zero_add] at this
    omega)
  have hr1 : h2 8 = tK (h0 8) ct from_ 3 most (lv u N x) := by
    rw [r1, e8]
    exact tK_congr (fun i hi => by
      have := (hv i hi).1
      rw [Nat.zero_add] at this
      exact this)
  refine ⟨h2, r0, ?_, ?_, ?_, ?_, ?_, ?_, ?_, ?_, ?_⟩
  · exact ⟨by
      rw [← hc.1]
      funext i
      unfold uR
      rw [r2 0 i (by decide)], by rw [r2 35 10 (by decide)]; exact hc.2.1, hc.2.2.1, hc.2.2.2.fr (fun j _ => r2 35 j (by decide))⟩
  · rw [hln]
    obtain ⟨a1, a2, a3, a4, a5⟩ := hA
    exact ⟨by rw [r2 35 9 (by decide)]; exact a1, by rw [r2 35 11 (by decide)]; exact a2, by rw [r2 35 12 (by decide)]; exact a3, fun w => by rw [r2 35 13 (by decide)]; exact a4 w, fun w => by rw [r2 35 14 (by decide)]; exact a5 w⟩
  · rw [hln]
    obtain ⟨b1, b2, b3, b4⟩ := hq
    exact ⟨by rw [r2 35 16 (by decide)]; exact b1, fun w => by rw [r2 35 17 (by decide)]; exact b2 w, b3, b4⟩
  · rw [hln]
    exact hp
  · intro _
    rw [hr1, hT]
  · refine ⟨fun _ => ?_, fun w => by omega, fun w => by omega⟩
    obtain ⟨b5, b6, b49⟩ := hB.1 rfl
    rw [hr1]
    rcases hcc with ⟨rfl, rfl, rfl⟩ | ⟨rfl, rfl, rfl⟩
    · refine ⟨tK_ct b5.1 b5.2, ?_, ?_⟩
      · rw [tK_lo (by decide) (by decide)]; exact b6
      · rw [tK_hi b5.1 b5.2 (by decide) (by decide)]; exact b49
    · refine ⟨?_, tK_ct b6.1 b6.2, ?_⟩
      · rw [tK_lo (by decide) (by decide)]; exact b5
      · rw [tK_hi b6.1 b6.2 (by decide) (by decide)]; exact b49
  · rw [r2 35 20 (by decide), hF 35 20 (by omega) (by omega), zup_at, hf1]
  · rw [r2 35 21 (by decide), hF 35 21 (by omega) (by omega), zup_ne (by omega), hf2]
  · exact fun a j w => by rw [r2 a j (by omega), hF a j (by omega) (by omega), zup_ne (by omega)]
theorem lnB_t {ln i : Nat} {v : Nat → Int} {lo hi : Int} (h1 : ln < 13) (h2 : lnL ln i = lo) (h3 : lnH ln i = hi) : lnB ln v i ↔ ¬ (lo ≤ v i ∧ v i ≤ hi) := by
  unfold lnB
  rw [h2, h3]
  exact ⟨fun w => by
    rcases w with w | w | w
    · exact w
    · omega
    · omega, Or.inl⟩
/-- all numbers are there, or the first that is none -/
theorem K3 (u : Nat → Int) (N x m : Nat) : (∀ i, i < m → tkK u N (tkN u N x (i + 1)) = 3) ∨ ∃ i, i < m ∧ tkK u N (tkN u N x (i + 1)) ≠ 3 ∧ ∀ j, j < i → tkK u N (tkN u N x (j + 1)) = 3 := by
  induction m with
  | zero => exact Or.inl (fun i hi => by omega)
  | succ m ih =>
    rcases ih with ih | ⟨i, hi, h1, h2⟩
    · by_cases h : tkK u N (tkN u N x (m + 1)) = 3
      · exact Or.inl (fun i hi => by
          by_cases e : i = m
          · subst e; exact h
          · exact ih i (by omega))
      · exact Or.inr ⟨m, by omega, h, ih⟩
    · exact Or.inr ⟨i, by omega, h1, h2⟩
theorem rS.x {u : Nat → Int} {N x ln off i : Nat} {q0 : Int × Int} {h0 h1 h : yH} (hS : rS u N x ln off q0 h1 i h) (hp : pF h0 h1) : lnX1 (lp u N x i) h0 (zup h 35 15 (lp u N x i)) := ⟨zup_at _ _ _ _, hS.1.2.2.2.up (by omega), (hp.tr hS.2.2.2.2.2.2.2.p).up (by omega)⟩
theorem shoal_e {u : Nat → Int} {N x n : Nat} {q0 : Int × Int} {h0 : yH} (hn : 1400 ≤ n) (hx : x ≤ N) (hS : rS u N x 4 0 q0 h0 0 h0) (hb : -1 ≤ h0 35 20 ∧ h0 35 20 ≤ 99) (hB : rB 0 (h0 8)) :
    ((∀ i, i < lnN 4 → tkK u N (tkN u N x (i + 1)) = 3) → ∃ h2, f_X12_shoalLine n [35] h0 = some (1, h2) ∧ lnD u N x 0 4 q0 h0 h2) ∧
    ∀ i, i < lnN 4 → tkK u N (tkN u N x (i + 1)) ≠ 3 → (∀ j, j < i → tkK u N (tkN u N x (j + 1)) = 3) → ∃ h2, f_X12_shoalLine n [35] h0 = some (0, h2) ∧ lnX1 (lp u N x i) h0 h2 := by
  have l3 : lnN 4 = 3 := by decide
  have p0 : pF h0 (zup h0 35 20 (max (h0 35 20) (lv u N x 0))) := pF.rfl'.up (by omega)
  have t0 : tkK u N (tkN u N x 1) = 3 → _ := fun hK => cell_t (n := n) hn hx hS hK hb (fun _ => lnB_t (by decide) (by decide) (by decide))
  constructor
  · intro hK
    obtain ⟨h1, r1, s1⟩ := t0 (hK 0 (by omega))
    obtain ⟨h2, r2, s2⟩ := take_t (k := 1) (lo := 1) (hi := 99) hn hx s1 (hK 1 (by omega)) rfl (by decide) (fun _ => lnB_t (by decide) (by decide) (by decide))
    obtain ⟨h3, r3, s3⟩ := take_t (k := 2) (lo := 0) (hi := 4) hn hx s2 (hK 2 (by omega)) rfl (by decide) (fun _ => lnB_t (by decide) (by decide) (by decide))
    obtain ⟨h4, r4, s4⟩ := line3 (ct := 5) (from_ := 19) (most := 4) hn s3 l3 rfl (hB.1 rfl).1 (by decide) (by decide) hB (Or.inl ⟨rfl, rfl, rfl⟩) (fun c => rfl) rfl
    exact ⟨h4, by rw [e_X12_shoalLine, r1, xb_some, if_neg (by decide), r2, xb_some, if_neg (by decide), r3, xb_some, if_neg (by decide), show f_X12_keep n [35, 5, 19, 3, 4] h3 = _ from r4, xb_some], s4⟩
  · intro i hi hK hj
    rw [e_X12_shoalLine]
    rcases (show i = 0 ∨ i = 1 ∨ i = 2 by omega) with rfl | rfl | rfl
    · obtain ⟨h1, r1, s1⟩ := cell_f (n := n) hS hK hb
      exact ⟨h1, by rw [r1, xb_some, if_pos rfl], s1⟩
    · obtain ⟨h1, r1, s1⟩ := t0 (hj 0 (by omega))
      exact ⟨_, by rw [r1, xb_some, if_neg (by decide), take_f s1 hK, xb_some, if_pos rfl], s1.x p0⟩
    · obtain ⟨h1, r1, s1⟩ := t0 (hj 0 (by omega))
      obtain ⟨h2, r2, s2⟩ := take_t (k := 1) (lo := 1) (hi := 99) hn hx s1 (hj 1 (by omega)) rfl (by decide) (fun _ => lnB_t (by decide) (by decide) (by decide))
      exact ⟨_, by rw [r1, xb_some, if_neg (by decide), r2, xb_some, if_neg (by decide), take_f s2 hK, xb_some, if_pos rfl], s2.x p0⟩
theorem boat_e {u : Nat → Int} {N x n : Nat} {q0 : Int × Int} {h0 : yH} (hn : 1400 ≤ n) (hx : x ≤ N) (hS : rS u N x 5 0 q0 h0 0 h0) (hb : -1 ≤ h0 35 20 ∧ h0 35 20 ≤ 99) (hB : rB 0 (h0 8)) :
    ((∀ i, i < lnN 5 → tkK u N (tkN u N x (i + 1)) = 3) → ∃ h2, f_X12_boatLine n [35] h0 = some (1, h2) ∧ lnD u N x 0 5 q0 h0 h2) ∧
    ∀ i, i < lnN 5 → tkK u N (tkN u N x (i + 1)) ≠ 3 → (∀ j, j < i → tkK u N (tkN u N x (j + 1)) = 3) → ∃ h2, f_X12_boatLine n [35] h0 = some (0, h2) ∧ lnX1 (lp u N x i) h0 h2 := by
  have l3 : lnN 5 = 3 := by decide
  have p0 : pF h0 (zup h0 35 20 (max (h0 35 20) (lv u N x 0))) := pF.rfl'.up (by omega)
  have t0 : tkK u N (tkN u N x 1) = 3 → _ := fun hK => cell_t (n := n) hn hx hS hK hb (fun _ => lnB_t (by decide) (by decide) (by decide))
  constructor
  · intro hK
    obtain ⟨h1, r1, s1⟩ := t0 (hK 0 (by omega))
    obtain ⟨h2, r2, s2⟩ := take_t (k := 1) (lo := 0) (hi := 20) hn hx s1 (hK 1 (by omega)) rfl (by decide) (fun _ => lnB_t (by decide) (by decide) (by decide))
    obtain ⟨h3, r3, s3⟩ := take_t (k := 2) (lo := 0) (hi := 2) hn hx s2 (hK 2 (by omega)) rfl (by decide) (fun _ => lnB_t (by decide) (by decide) (by decide))
    obtain ⟨h4, r4, s4⟩ := line3 (ct := 6) (from_ := 31) (most := 6) hn s3 l3 rfl (hB.1 rfl).2.1 (by decide) (by decide) hB (Or.inr ⟨rfl, rfl, rfl⟩) (fun c => rfl) rfl
    exact ⟨h4, by rw [e_X12_boatLine, r1, xb_some, if_neg (by decide), r2, xb_some, if_neg (by decide), r3, xb_some, if_neg (by decide), show f_X12_keep n [35, 6, 31, 3, 6] h3 = _ from r4, xb_some], s4⟩
  · intro i hi hK hj
    rw [e_X12_boatLine]
    rcases (show i = 0 ∨ i = 1 ∨ i = 2 by omega) with rfl | rfl | rfl
    · obtain ⟨h1, r1, s1⟩ := cell_f (n := n) hS hK hb
      exact ⟨h1, by rw [r1, xb_some, if_pos rfl], s1⟩
    · obtain ⟨h1, r1, s1⟩ := t0 (hj 0 (by omega))
      exact ⟨_, by rw [r1, xb_some, if_neg (by decide), take_f s1 hK, xb_some, if_pos rfl], s1.x p0⟩
    · obtain ⟨h1, r1, s1⟩ := t0 (hj 0 (by omega))
      obtain ⟨h2, r2, s2⟩ := take_t (k := 1) (lo := 0) (hi := 20) hn hx s1 (hj 1 (by omega)) rfl (by decide) (fun _ => lnB_t (by decide) (by decide) (by decide))
      exact ⟨_, by rw [r1, xb_some, if_neg (by decide), r2, xb_some, if_neg (by decide), take_f s2 hK, xb_some, if_pos rfl], s2.x p0⟩
end
section
/-! the reference: a sea's line from its word on -/
theorem full_e {n : Nat} {h : yH} {ct : Nat} {most p : Int} {q : Int × Int} (hp : rP h) (hct : ct < 121) (hq : rN h q) (h0 : q.1 = 0 ∨ q.2 < p) {B : Prop} [Decidable B] (hB : B ↔ h 8 ct = most) :
    ∃ h2, f_X12_full n [35, (ct : Int), most, p] h = some (0, h2) ∧ rN h2 (nt q B 3 p) ∧ ∀ a j, ¬ (a = 35 ∧ (j = 16 ∨ j = 17)) → h2 a j = h a j := by
  have p18 : h 35 18 = 8 := hp.2.2.2.2.2.2.2.2.1
  rw [e_X12_full, xg_pos p18, xg_pos (by omega), Int.toNat_natCast]
  by_cases hf : h 8 ct = most
  · rw [if_pos hf]
    obtain ⟨l1, l2⟩ := later_e (n := n) (f := 3) (p := p) hq h0 (by decide)
    have hnt : nt q True 3 p = nt q B 3 p := by
      unfold nt
      by_cases hz : q.1 = 0
      · rw [if_pos ⟨hz, trivial⟩, if_pos ⟨hz, hB.mpr hf⟩]
      · rw [if_neg (fun w => hz w.1), if_neg (fun w => hz w.1)]
    rw [hnt] at l2
    refine ⟨_, by rw [l1, xb_some], l2, fun a j w => ?_⟩
    split
    · rw [zup_ne (by omega), zup_ne (by omega)]
    · rfl
  · rw [if_neg hf]
    exact ⟨h, rfl, by rw [nt_f (fun w => hf (hB.mp w))]; exact hq, fun _ _ _ => rfl⟩
/-- behind a line's word: the first number stands there -/
theorem start_e {u : Nat → Int} {N x n : Nat} {h : yH} {q : Int × Int} (hn : 1400 ≤ n) (hx : x ≤ N) (hc : rC u N h) (hA : tokA u N x h) (hK : tkK u N x ≠ 0) (hq : rN h q) (h0 : q.1 = 0 ∨ q.2 ≤ (tkS u N x : Nat)) :
    ∃ h2, f_X12_token n [35] h = some (0, h2) ∧ rC u N h2 ∧ tokA u N (tkN u N x 1) h2 ∧ rN h2 q ∧ (q.1 = 0 ∨ q.2 < lp u N x 0) ∧ tokF h h2 := by
  have hE := @tkE_n u N x hx
  obtain ⟨h2, r0, r1, r2⟩ := token_e (n := n) hn hc.2.2.1 hc.1 hc.2.2.2.1 hc.2.1 hA.1 hE
  have hs := tkS_next hK
  refine ⟨h2, r0, r2.c hc, r1, ?_, ?_, r2⟩
  · obtain ⟨b1, b2, b3, b4⟩ := hq
    exact ⟨by rw [r2 35 16 (by omega)]; exact b1, fun w => by rw [r2 35 17 (by omega)]; exact b2 w, b3, b4⟩
  · rcases h0 with h0 | h0
    · exact Or.inl h0
    · refine Or.inr ?_
      unfold lp
      show q.2 < ((tkS u N (tkE u N x) : Nat) : Int)
      omega
theorem rS_g {u : Nat → Int} {N x ln off : Nat} {q0 : Int × Int} {h : yH} (hc : rC u N h) (hA : tokA u N (tkN u N x 1) h) (hq : rN h q0) (hp : q0.1 = 0 ∨ q0.2 < lp u N x 0) : rS u N x ln off q0 (zup h 35 22 1) 0 (zup h 35 22 1) := by
  obtain ⟨a1, a2, a3, a4, a5⟩ := hA
  obtain ⟨b1, b2, b3, b4⟩ := hq
  refine rS_0 (hc.up (by decide) (by omega)) ⟨by rw [zup_ne (by omega)]; exact a1, by rw [zup_ne (by omega)]; exact a2, by rw [zup_ne (by omega)]; exact a3, fun w => by rw [zup_ne (by omega)]; exact a4 w, fun w => by rw [zup_ne (by omega)]; exact a5 w⟩ ⟨by rw [zup_ne (by omega)]; exact b1, fun w => by rw [zup_ne (by omega)]; exact b2 w, b3, b4⟩ hp
/-- what a line leaves, told of the cells ahead of it -/
theorem lnD.back {u : Nat → Int} {N x of ln : Nat} {q0 : Int × Int} {h h0 h2 : yH} (hD : lnD u N x of ln q0 h0 h2) (h8 : h0 8 = h 8) (h20 : h0 35 20 = h 35 20) (h21 : h0 35 21 = h 35 21) (hp : pF h h0) : lnD u N x of ln q0 h h2 := by
  obtain ⟨d1, d2, d3, d4, d5, d6, d7, d8, d9⟩ := hD
  exact ⟨d1, d2, d3, d4, by rw [← h8]; exact d5, d6, by rw [← h20]; exact d7, by rw [← h21]; exact d8, hp.tr d9⟩
theorem lnX1.back {p : Int} {h h0 h2 : yH} (hX : lnX1 p h0 h2) (hp : pF h h0) : lnX1 p h h2 := ⟨hX.1, hX.2.1, hp.tr hX.2.2⟩
/-- a line whose numbers are taken, and what it writes -/
theorem lnD_of {u : Nat → Int} {N x of ln off : Nat} {q0 : Int × Int} {h0 h h2 : yH} {m : Nat} (hS : rS u N x ln off q0 h0 m h) (hm : lnN ln = m) (h8 : (∀ j, j < lnN ln → ¬ lnB ln (lv u N x) j) → h2 8 = lnT ln (lv u N x) (h0 8)) (hB : rB of (h2 8)) (h20 : h2 35 20 = lnFc ln (lv u N x) (h0 35 20)) (h21 : h2 35 21 = lnFo ln (lv u N x) (h0 35 21)) (hF : ∀ a j, a ≠ 8 → ¬ (a = 35 ∧ (j = 20 ∨ j = 21)) → h2 a j = h a j) : lnD u N x of ln q0 h0 h2 := by
  obtain ⟨hc, hA, hq, hp, hv, hg1, hg2, hFr⟩ := hS
  subst hm
  obtain ⟨a1, a2, a3, a4, a5⟩ := hA
  obtain ⟨b1, b2, b3, b4⟩ := hq
  refine ⟨⟨by
      rw [← hc.1]
      funext i
      unfold uR
      rw [hF 0 i (by decide) (by omega)], by rw [hF 35 10 (by decide) (by omega)]; exact hc.2.1, hc.2.2.1, hc.2.2.2.fr (fun j hj => hF 35 j (by decide) (by omega))⟩, ⟨by rw [hF 35 9 (by decide) (by omega)]; exact a1, by rw [hF 35 11 (by decide) (by omega)]; exact a2, by rw [hF 35 12 (by decide) (by omega)]; exact a3, fun w => by rw [hF 35 13 (by decide) (by omega)]; exact a4 w, fun w => by rw [hF 35 14 (by decide) (by omega)]; exact a5 w⟩, ⟨by rw [hF 35 16 (by decide) (by omega)]; exact b1, fun w => by rw [hF 35 17 (by decide) (by omega)]; exact b2 w, b3, b4⟩, hp, h8, hB, h20, h21, fun a j w => by rw [hF a j (by omega) (by omega)]; exact hFr a j (by omega) (by omega)⟩
theorem coast_l {n : Nat} {h : yH} {c : Nat} (hp : rP h) (hg : h 35 22 ≠ 0) (hc : h 9 0 = (c : Int)) (hc2 : c ≤ 2) (hv : ∀ i, i < 5 → -1 ≤ h 9 i ∧ h 9 i ≤ 99) :
    ∀ (m i : Nat) (g : yH), 4 - i = m → m < n → i ≤ 4 → (∀ a j, g a j = if a = 8 ∧ 7 + 4 * c ≤ j ∧ j < 7 + 4 * c + i then h 9 (1 + (j - (7 + 4 * c))) else h a j) →
      ∃ h2, xl_X12_coastLine n 57 [35, (i : Int)] g = some (1, h2) ∧ ∀ a j, h2 a j = if a = 8 ∧ 7 + 4 * c ≤ j ∧ j < 7 + 4 * c + 4 then h 9 (1 + (j - (7 + 4 * c))) else h a j := by
  have p18 : h 35 18 = 8 := hp.2.2.2.2.2.2.2.2.1
  have p19 : h 35 19 = 9 := hp.2.2.2.2.2.2.2.2.2
  intro m
  revert n
  induction m with
  | zero =>
    intro n i g e1 e2 hi hg9
    obtain ⟨n, rfl⟩ : ∃ n', n = n' + 1 := ⟨n - 1, by omega⟩
    rw [e_X12_coastLine_57, if_neg (by omega)]
    have ei : i = 4 := by omega
    subst ei
    exact ⟨g, rfl, hg9⟩
  | succ m ih =>
    intro n i g e1 e2 hi hg9
    obtain ⟨n, rfl⟩ : ∃ n', n = n' + 1 := ⟨n - 1, by omega⟩
    have g22 : g 35 22 ≠ 0 := by rw [hg9, if_neg (by omega)]; exact hg
    have g18 : g 35 18 = 8 := by rw [hg9, if_neg (by omega)]; exact p18
    have g19 : g 35 19 = 9 := by rw [hg9, if_neg (by omega)]; exact p19
    have g0 : g 9 0 = (c : Int) := by rw [hg9, if_neg (by omega)]; exact hc
    have gi : g 9 (1 + i) = h 9 (1 + i) := by rw [hg9, if_neg (by omega)]
    have hvi := hv (1 + i) (by omega)
    rw [e_X12_coastLine_57, if_pos (by omega), if_neg g22, xg_pos g18, xg_pos g19, g0, xg_pos (by omega), xg_pos (by omega), xg_pos (by omega), xg_pos g19, xg_pos (by omega), xg_pos (by omega), xg_pos (by omega), show (1 + (i : Int)).toNat = 1 + i by omega, gi, xg_pos (by omega), xg_pos (by omega), show (7 + 4 * (c : Int) + (i : Int)).toNat = 7 + 4 * c + i by omega]
    refine ih (n := n) (i + 1) _ (by omega) (by omega) (by omega) (fun a j => ?_)
    by_cases hr : a = 8 ∧ j = 7 + 4 * c + i
    · obtain ⟨rfl, rfl⟩ := hr
      rw [zup_at, if_pos (by omega), show 7 + 4 * c + i - (7 + 4 * c) = i by omega]
    · rw [zup_ne hr, hg9]
      by_cases hr2 : a = 8 ∧ 7 + 4 * c ≤ j ∧ j < 7 + 4 * c + i
      · rw [if_pos hr2, if_pos (by omega)]
      · rw [if_neg hr2, if_neg (by omega)]
theorem coast_e {u : Nat → Int} {N x n : Nat} {q0 : Int × Int} {h0 : yH} (hn : 1400 ≤ n) (hx : x ≤ N) (hS : rS u N x 3 0 q0 h0 0 h0) (hg0 : h0 35 22 = 1) (hB : rB 0 (h0 8)) :
    ((∀ i, i < lnN 3 → tkK u N (tkN u N x (i + 1)) = 3) → ∃ h2, f_X12_coastLine n [35] h0 = some (1, h2) ∧ lnD u N x 0 3 q0 h0 h2) ∧
    ∀ i, i < lnN 3 → tkK u N (tkN u N x (i + 1)) ≠ 3 → (∀ j, j < i → tkK u N (tkN u N x (j + 1)) = 3) → ∃ h2, f_X12_coastLine n [35] h0 = some (0, h2) ∧ lnX1 (lp u N x i) h0 h2 := by
  have l5 : lnN 3 = 5 := by decide
  have t0 : tkK u N (tkN u N x 1) = 3 → ∃ h2, f_X12_take n [35, 0, 0, 2] h0 = some (1, h2) ∧ rS u N x 3 0 q0 h0 1 h2 := fun hK => take_t hn hx hS hK rfl (by decide) (fun _ => lnB_t (by decide) (by decide) (by decide))
  have t1 : ∀ h, rS u N x 3 0 q0 h0 1 h → tkK u N (tkN u N x 2) = 3 → ∃ h2, f_X12_take n [35, 1, 1, 20] h = some (1, h2) ∧ rS u N x 3 0 q0 h0 2 h2 := fun h hS hK => take_t hn hx hS hK rfl (by decide) (fun _ => lnB_t (by decide) (by decide) (by decide))
  have t2 : ∀ h, rS u N x 3 0 q0 h0 2 h → tkK u N (tkN u N x 3) = 3 → ∃ h2, f_X12_take n [35, 2, 0, 5] h = some (1, h2) ∧ rS u N x 3 0 q0 h0 3 h2 := fun h hS hK => take_t hn hx hS hK rfl (by decide) (fun _ => lnB_t (by decide) (by decide) (by decide))
  have t3 : ∀ h, rS u N x 3 0 q0 h0 3 h → tkK u N (tkN u N x 4) = 3 → ∃ h2, f_X12_take n [35, 3, 0, 20] h = some (1, h2) ∧ rS u N x 3 0 q0 h0 4 h2 := fun h hS hK => take_t hn hx hS hK rfl (by decide) (fun _ => lnB_t (by decide) (by decide) (by decide))
  have t4 : ∀ h, rS u N x 3 0 q0 h0 4 h → tkK u N (tkN u N x 5) = 3 → ∃ h2, f_X12_take n [35, 4, 1, 30] h = some (1, h2) ∧ rS u N x 3 0 q0 h0 5 h2 := fun h hS hK => take_t hn hx hS hK rfl (by decide) (fun _ => lnB_t (by decide) (by decide) (by decide))
  constructor
  · intro hK
    obtain ⟨h1, r1, s1⟩ := t0 (hK 0 (by omega))
    obtain ⟨h2, r2, s2⟩ := t1 h1 s1 (hK 1 (by omega))
    obtain ⟨h3, r3, s3⟩ := t2 h2 s2 (hK 2 (by omega))
    obtain ⟨h4, r4, s4⟩ := t3 h3 s3 (hK 3 (by omega))
    obtain ⟨h5, r5, s5⟩ := t4 h4 s4 (hK 4 (by omega))
    have e8 : h5 8 = h0 8 := by
      funext j
      exact s5.2.2.2.2.2.2.2 8 j (by omega) (by omega)
    have e20 : h5 35 20 = h0 35 20 := s5.2.2.2.2.2.2.2 35 20 (by omega) (by omega)
    have e21 : h5 35 21 = h0 35 21 := s5.2.2.2.2.2.2.2 35 21 (by omega) (by omega)
    have hv := s5.2.2.2.2.1
    rw [e_X12_coastLine, r1, xb_some, if_neg (by decide), r2, xb_some, if_neg (by decide), r3, xb_some, if_neg (by decide), r4, xb_some, if_neg (by decide), r5, xb_some, if_neg (by decide)]
    by_cases hbad : ∃ j, j < 5 ∧ lnB 3 (lv u N x) j
    · have g22 := s5.2.2.2.2.2.2.1 hbad
      obtain ⟨n, rfl⟩ : ∃ n', n = n' + 1 := ⟨n - 1, by omega⟩
      rw [e_X12_coastLine_57, if_pos (by decide), if_pos g22]
      refine ⟨h5, rfl, lnD_of s5 l5 (fun w => ?_) (by rw [e8]; exact hB) e20 e21 (fun _ _ _ _ => rfl)⟩
      obtain ⟨j, hj, hb⟩ := hbad
      exact absurd hb (w j (by omega))
    · have hgood : ∀ j, j < 5 → ¬ lnB 3 (lv u N x) j := fun j hj hb => hbad ⟨j, hj, hb⟩
      have g22 : h5 35 22 ≠ 0 := by
        rw [s5.2.2.2.2.2.1 hgood, hg0]
        decide
      have hv0 : 0 ≤ lv u N x 0 ∧ lv u N x 0 ≤ 2 := by
        have h1 := hgood 0 (by decide)
        rw [lnB_t (lo := 0) (hi := 2) (by decide) (by decide) (by decide)] at h1
        exact Classical.not_not.mp h1
      obtain ⟨c, hc⟩ : ∃ c : Nat, lv u N x 0 = (c : Int) := ⟨(lv u N x 0).toNat, by omega⟩
      have h90 : h5 9 0 = (c : Int) := by
        have := (hv 0 (by decide)).1
        rw [← hc]
        exact this
      obtain ⟨h6, r6, s6⟩ := coast_l (n := n) (h := h5) (c := c) s5.1.2.2.2 g22 h90 (by omega) (fun i hi => by
        have := hv i hi
        rw [Nat.zero_add] at this
        omega) 4 0 h5 rfl (by omega) (by decide) (fun a j => by rw [if_neg (by omega)])
      have ne8 : ∀ a j, a ≠ 8 → h6 a j = h5 a j := fun a j ha => by rw [s6, if_neg (fun w => ha w.1)]
      refine ⟨h6, r6, lnD_of s5 l5 (fun _ => ?_) ?_ (by rw [ne8 35 20 (by decide)]; exact e20) (by rw [ne8 35 21 (by decide)]; exact e21) (fun a j w _ => ne8 a j w)⟩
      · have hL : ∀ i, i < 5 → h5 9 i = lv u N x i := fun i hi => by
          have := (hv i hi).1
          rw [Nat.zero_add] at this
          exact this
        funext j
        rw [s6]
        show _ = tU (tU (tU (tU (h0 8) (7 + 4 * (lv u N x 0).toNat) (lv u N x 1)) (7 + 4 * (lv u N x 0).toNat + 1) (lv u N x 2)) (7 + 4 * (lv u N x 0).toNat + 2) (lv u N x 3)) (7 + 4 * (lv u N x 0).toNat + 3) (lv u N x 4) j
        rw [hc, Int.toNat_natCast]
        by_cases hr : 7 + 4 * c ≤ j ∧ j < 7 + 4 * c + 4
        · rw [if_pos ⟨rfl, hr⟩]
          rcases (show j = 7 + 4 * c ∨ j = 7 + 4 * c + 1 ∨ j = 7 + 4 * c + 2 ∨ j = 7 + 4 * c + 3 by omega) with rfl | rfl | rfl | rfl
          · rw [tU_ne (by omega), tU_ne (by omega), tU_ne (by omega), tU_at, Nat.sub_self]
            exact hL 1 (by decide)
          · rw [tU_ne (by omega), tU_ne (by omega), tU_at, show 7 + 4 * c + 1 - (7 + 4 * c) = 1 by omega]
            exact hL 2 (by decide)
          · rw [tU_ne (by omega), tU_at, show 7 + 4 * c + 2 - (7 + 4 * c) = 2 by omega]
            exact hL 3 (by decide)
          · rw [tU_at, show 7 + 4 * c + 3 - (7 + 4 * c) = 3 by omega]
            exact hL 4 (by decide)
        · rw [if_neg (fun w => hr w.2), tU_ne (by omega), tU_ne (by omega), tU_ne (by omega), tU_ne (by omega), e8]
      · obtain ⟨b5, b6, b49⟩ := hB.1 rfl
        refine ⟨fun _ => ?_, fun w => by omega, fun w => by omega⟩
        rw [s6, if_neg (by omega), s6, if_neg (by omega), s6, if_neg (by omega), e8]
        exact ⟨b5, b6, b49⟩
  · intro i hi hK hj
    rw [e_X12_coastLine]
    rcases (show i = 0 ∨ i = 1 ∨ i = 2 ∨ i = 3 ∨ i = 4 by omega) with rfl | rfl | rfl | rfl | rfl
    · exact ⟨_, by rw [take_f hS hK, xb_some, if_pos rfl], hS.x pF.rfl'⟩
    · obtain ⟨h1, r1, s1⟩ := t0 (hj 0 (by omega))
      exact ⟨_, by rw [r1, xb_some, if_neg (by decide), take_f s1 hK, xb_some, if_pos rfl], s1.x pF.rfl'⟩
    · obtain ⟨h1, r1, s1⟩ := t0 (hj 0 (by omega))
      obtain ⟨h2, r2, s2⟩ := t1 h1 s1 (hj 1 (by omega))
      exact ⟨_, by rw [r1, xb_some, if_neg (by decide), r2, xb_some, if_neg (by decide), take_f s2 hK, xb_some, if_pos rfl], s2.x pF.rfl'⟩
    · obtain ⟨h1, r1, s1⟩ := t0 (hj 0 (by omega))
      obtain ⟨h2, r2, s2⟩ := t1 h1 s1 (hj 1 (by omega))
      obtain ⟨h3, r3, s3⟩ := t2 h2 s2 (hj 2 (by omega))
      exact ⟨_, by rw [r1, xb_some, if_neg (by decide), r2, xb_some, if_neg (by decide), r3, xb_some, if_neg (by decide), take_f s3 hK, xb_some, if_pos rfl], s3.x pF.rfl'⟩
    · obtain ⟨h1, r1, s1⟩ := t0 (hj 0 (by omega))
      obtain ⟨h2, r2, s2⟩ := t1 h1 s1 (hj 1 (by omega))
      obtain ⟨h3, r3, s3⟩ := t2 h2 s2 (hj 2 (by omega))
      obtain ⟨h4, r4, s4⟩ := t3 h3 s3 (hj 3 (by omega))
      exact ⟨_, by rw [r1, xb_some, if_neg (by decide), r2, xb_some, if_neg (by decide), r3, xb_some, if_neg (by decide), r4, xb_some, if_neg (by decide), take_f s4 hK, xb_some, if_pos rfl], s4.x pF.rfl'⟩
end
section
/-! the reference: size, wind, nets, deaf; a sea's line -/
theorem zup_tU (h : yH) (a j : Nat) (x : Int) : zup h a j x a = tU (h a) j x := by
  funext i
  unfold tU
  rw [zup_app]
  by_cases e : i = j
  · rw [if_pos ⟨rfl, e⟩, if_pos e]
  · rw [if_neg (fun w => e w.2), if_neg e]
theorem y_or6 : ∀ d : Fin 64, ∀ r : Fin 6, 0 ≤ yari 8 (d.val : Int) (yari 5 1 (r.val : Int)) ∧ yari 8 (d.val : Int) (yari 5 1 (r.val : Int)) ≤ 63 := by decide +kernel
theorem y_or0 : ∀ d : Fin 64, yari 8 (d.val : Int) 0 = (d.val : Int) := by decide +kernel
theorem or6 {d r : Int} (h1 : 0 ≤ d ∧ d ≤ 63) (h2 : 0 ≤ r ∧ r ≤ 5) : 0 ≤ yari 8 d (yari 5 1 r) ∧ yari 8 d (yari 5 1 r) ≤ 63 := by
  have := y_or6 ⟨d.toNat, by omega⟩ ⟨r.toNat, by omega⟩
  simp only at this
  rw [show ((d.toNat : Nat) : Int) = d by omega, show ((r.toNat : Nat) : Int) = r by omega] at this
  exact this
theorem or0 {d : Int} (h1 : 0 ≤ d ∧ d ≤ 63) : yari 8 d 0 = d := by
  have := y_or0 ⟨d.toNat, by omega⟩
  simp only at this
  rw [show ((d.toNat : Nat) : Int) = d by omega] at this
  exact this
theorem size_e {u : Nat → Int} {N x n : Nat} {p : Int} {q0 : Int × Int} {h0 : yH} (hn : 1400 ≤ n) (hx : x ≤ N) (hS : rS u N x 0 0 q0 h0 0 h0) (hb : -1 ≤ h0 35 21 ∧ h0 35 21 ≤ 99) (hB : rB 0 (h0 8)) :
    ((∀ i, i < lnN 0 → tkK u N (tkN u N x (i + 1)) = 3) → ∃ h2, xq_X12_seaLine_165 n [35, 1936292453, p, 1] h0 = some (1, h2) ∧ lnD u N x 0 0 q0 h0 h2) ∧
    ∀ i, i < lnN 0 → tkK u N (tkN u N x (i + 1)) ≠ 3 → (∀ j, j < i → tkK u N (tkN u N x (j + 1)) = 3) → ∃ h2, xq_X12_seaLine_165 n [35, 1936292453, p, 1] h0 = some (0, h2) ∧ lnX1 (lp u N x i) h0 h2 := by
  have ln' : lnN 0 = 2 := by decide
  have t0 : tkK u N (tkN u N x 1) = 3 → ∃ h2, f_X12_take n [35, 0, 2, 8] h0 = some (1, h2) ∧ rS u N x 0 0 q0 h0 1 h2 := fun hK => take_t hn hx hS hK rfl (by decide) (fun _ => lnB_t (by decide) (by decide) (by decide))
  have t1 : ∀ h, rS u N x 0 0 q0 h0 1 h → tkK u N (tkN u N x 2) = 3 → ∃ h2, f_X12_take n [35, 1, 2, 8] h = some (1, h2) ∧ rS u N x 0 0 q0 h0 2 h2 := fun h hS hK => take_t hn hx hS hK rfl (by decide) (fun _ => lnB_t (by decide) (by decide) (by decide))
  constructor
  · intro hK
    obtain ⟨h1, r1, s1⟩ := t0 (hK 0 (by omega))
    obtain ⟨h2, r2, s2⟩ := t1 h1 s1 (hK 1 (by omega))
    have e8 : h2 8 = h0 8 := by
      funext j
      exact s2.2.2.2.2.2.2.2 8 j (by omega) (by omega)
    have e20 : h2 35 20 = h0 35 20 := s2.2.2.2.2.2.2.2 35 20 (by omega) (by omega)
    have e21 : h2 35 21 = h0 35 21 := s2.2.2.2.2.2.2.2 35 21 (by omega) (by omega)
    have hv := s2.2.2.2.2.1
    have p18 : h2 35 18 = 8 := s2.1.2.2.2.2.2.2.2.2.2.2.2.1
    have p19 : h2 35 19 = 9 := s2.1.2.2.2.2.2.2.2.2.2.2.2.2
    have v0 := hv 0 (by decide)
    have v1 := hv 1 (by decide)
    rw [Nat.zero_add] at v0 v1
    rw [e_X12_seaLine_165, if_pos rfl, e_X12_seaLine_194, if_pos rfl, e_X12_seaLine_233, r1, xb_some, if_neg (by decide), if_neg (by decide), if_pos rfl, e_X12_seaLine_259, if_pos rfl, r2, xb_some, if_neg (by decide), e_X12_seaLine_281, if_neg (by decide), if_neg (by decide), xg_pos p18, if_pos rfl, e_X12_seaLine_382, xg_pos p19, xg_pos (by decide), xg_pos (by omega), xg_pos p18, if_pos rfl, xg_pos p19, xg_pos (by omega), v0.1, v1.1]
    refine ⟨_, rfl, lnD_of s2 ln' (fun _ => ?_) ?_ (by rw [zup_ne (by omega), zup_ne (by omega)]; exact e20) (by rw [zup_ne (by omega), zup_ne (by omega)]; exact e21) (fun a j w _ => by rw [zup_ne (by omega), zup_ne (by omega)])⟩
    · rw [zup_tU, zup_tU, e8]
      rfl
    · obtain ⟨b5, b6, b49⟩ := hB.1 rfl
      refine ⟨fun _ => ?_, fun w => by omega, fun w => by omega⟩
      rw [zup_tU, zup_tU, e8, tU_ne (by decide), tU_ne (by decide), tU_ne (by decide), tU_ne (by decide), tU_ne (by decide), tU_ne (by decide)]
      exact ⟨b5, b6, b49⟩
  · intro i hi hK hj
    rw [e_X12_seaLine_165, if_pos rfl, e_X12_seaLine_194, if_pos rfl, e_X12_seaLine_233]
    rcases (show i = 0 ∨ i = 1 by omega) with rfl | rfl
    · exact ⟨_, by rw [take_f hS hK, xb_some, if_pos rfl], hS.x pF.rfl'⟩
    · obtain ⟨h1, r1, s1⟩ := t0 (hj 0 (by omega))
      exact ⟨_, by rw [r1, xb_some, if_neg (by decide), if_neg (by decide), if_pos rfl, e_X12_seaLine_259, if_pos rfl, take_f s1 hK, xb_some, if_pos rfl], s1.x pF.rfl'⟩
theorem wind_e {u : Nat → Int} {N x n : Nat} {p : Int} {q0 : Int × Int} {h0 : yH} (hn : 1400 ≤ n) (hx : x ≤ N) (hS : rS u N x 1 0 q0 h0 0 h0) (hb : -1 ≤ h0 35 21 ∧ h0 35 21 ≤ 99) (hB : rB 0 (h0 8)) :
    ((∀ i, i < lnN 1 → tkK u N (tkN u N x (i + 1)) = 3) → ∃ h2, xq_X12_seaLine_165 n [35, 2003398244, p, 1] h0 = some (1, h2) ∧ lnD u N x 0 1 q0 h0 h2) ∧
    ∀ i, i < lnN 1 → tkK u N (tkN u N x (i + 1)) ≠ 3 → (∀ j, j < i → tkK u N (tkN u N x (j + 1)) = 3) → ∃ h2, xq_X12_seaLine_165 n [35, 2003398244, p, 1] h0 = some (0, h2) ∧ lnX1 (lp u N x i) h0 h2 := by
  have ln' : lnN 1 = 2 := by decide
  have t0 : tkK u N (tkN u N x 1) = 3 → ∃ h2, f_X12_take n [35, 0, 0, 3] h0 = some (1, h2) ∧ rS u N x 1 0 q0 h0 1 h2 := fun hK => take_t hn hx hS hK rfl (by decide) (fun _ => lnB_t (by decide) (by decide) (by decide))
  have t1 : ∀ h, rS u N x 1 0 q0 h0 1 h → tkK u N (tkN u N x 2) = 3 → ∃ h2, f_X12_take n [35, 1, 0, 3] h = some (1, h2) ∧ rS u N x 1 0 q0 h0 2 h2 := fun h hS hK => take_t hn hx hS hK rfl (by decide) (fun _ => lnB_t (by decide) (by decide) (by decide))
  constructor
  · intro hK
    obtain ⟨h1, r1, s1⟩ := t0 (hK 0 (by omega))
    obtain ⟨h2, r2, s2⟩ := t1 h1 s1 (hK 1 (by omega))
    have e8 : h2 8 = h0 8 := by
      funext j
      exact s2.2.2.2.2.2.2.2 8 j (by omega) (by omega)
    have e20 : h2 35 20 = h0 35 20 := s2.2.2.2.2.2.2.2 35 20 (by omega) (by omega)
    have e21 : h2 35 21 = h0 35 21 := s2.2.2.2.2.2.2.2 35 21 (by omega) (by omega)
    have hv := s2.2.2.2.2.1
    have p18 : h2 35 18 = 8 := s2.1.2.2.2.2.2.2.2.2.2.2.2.1
    have p19 : h2 35 19 = 9 := s2.1.2.2.2.2.2.2.2.2.2.2.2.2
    have v0 := hv 0 (by decide)
    have v1 := hv 1 (by decide)
    rw [Nat.zero_add] at v0 v1
    rw [e_X12_seaLine_165, if_neg (by decide), if_neg (by decide), e_X12_seaLine_194, if_neg (by decide), if_pos rfl, e_X12_seaLine_233, r1, xb_some, if_neg (by decide), if_neg (by decide), if_neg (by decide), e_X12_seaLine_259, if_neg (by decide), r2, xb_some, if_neg (by decide), e_X12_seaLine_281, if_neg (by decide), if_neg (by decide), xg_pos p18, if_neg (by decide), e_X12_seaLine_382, xg_pos p19, xg_pos (by decide), xg_pos (by omega), xg_pos p18, if_neg (by decide), xg_pos p19, xg_pos (by omega), v0.1, v1.1]
    refine ⟨_, rfl, lnD_of s2 ln' (fun _ => ?_) ?_ (by rw [zup_ne (by omega), zup_ne (by omega)]; exact e20) (by rw [zup_ne (by omega), zup_ne (by omega)]; exact e21) (fun a j w _ => by rw [zup_ne (by omega), zup_ne (by omega)])⟩
    · rw [zup_tU, zup_tU, e8]
      rfl
    · obtain ⟨b5, b6, b49⟩ := hB.1 rfl
      refine ⟨fun _ => ?_, fun w => by omega, fun w => by omega⟩
      rw [zup_tU, zup_tU, e8, tU_ne (by decide), tU_ne (by decide), tU_ne (by decide), tU_ne (by decide), tU_ne (by decide), tU_ne (by decide)]
      exact ⟨b5, b6, b49⟩
  · intro i hi hK hj
    rw [e_X12_seaLine_165, if_neg (by decide), if_neg (by decide), e_X12_seaLine_194, if_neg (by decide), if_pos rfl, e_X12_seaLine_233]
    rcases (show i = 0 ∨ i = 1 by omega) with rfl | rfl
    · exact ⟨_, by rw [take_f hS hK, xb_some, if_pos rfl], hS.x pF.rfl'⟩
    · obtain ⟨h1, r1, s1⟩ := t0 (hj 0 (by omega))
      exact ⟨_, by rw [r1, xb_some, if_neg (by decide), if_neg (by decide), if_neg (by decide), e_X12_seaLine_259, if_neg (by decide), take_f s1 hK, xb_some, if_pos rfl], s1.x pF.rfl'⟩
theorem nets_e {u : Nat → Int} {N x n : Nat} {p : Int} {q0 : Int × Int} {h0 : yH} (hn : 1400 ≤ n) (hx : x ≤ N) (hS : rS u N x 2 0 q0 h0 0 h0) (hb : -1 ≤ h0 35 21 ∧ h0 35 21 ≤ 99) (hB : rB 0 (h0 8)) :
    ((∀ i, i < lnN 2 → tkK u N (tkN u N x (i + 1)) = 3) → ∃ h2, xq_X12_seaLine_165 n [35, 1852142707, p, 0] h0 = some (1, h2) ∧ lnD u N x 0 2 q0 h0 h2) ∧
    ∀ i, i < lnN 2 → tkK u N (tkN u N x (i + 1)) ≠ 3 → (∀ j, j < i → tkK u N (tkN u N x (j + 1)) = 3) → ∃ h2, xq_X12_seaLine_165 n [35, 1852142707, p, 0] h0 = some (0, h2) ∧ lnX1 (lp u N x i) h0 h2 := by
  have ln' : lnN 2 = 1 := by decide
  have t0 : tkK u N (tkN u N x 1) = 3 → ∃ h2, f_X12_take n [35, 0, 1, 9] h0 = some (1, h2) ∧ rS u N x 2 0 q0 h0 1 h2 := fun hK => take_t hn hx hS hK rfl (by decide) (fun _ => lnB_t (by decide) (by decide) (by decide))
  constructor
  · intro hK
    obtain ⟨h1, r1, s1⟩ := t0 (hK 0 (by omega))
    have e8 : h1 8 = h0 8 := by
      funext j
      exact s1.2.2.2.2.2.2.2 8 j (by omega) (by omega)
    have e20 : h1 35 20 = h0 35 20 := s1.2.2.2.2.2.2.2 35 20 (by omega) (by omega)
    have e21 : h1 35 21 = h0 35 21 := s1.2.2.2.2.2.2.2 35 21 (by omega) (by omega)
    have hv := s1.2.2.2.2.1
    have p18 : h1 35 18 = 8 := s1.1.2.2.2.2.2.2.2.2.2.2.2.1
    have p19 : h1 35 19 = 9 := s1.1.2.2.2.2.2.2.2.2.2.2.2.2
    have v0 := hv 0 (by decide)
    rw [Nat.zero_add] at v0
    rw [e_X12_seaLine_165, if_neg (by decide), if_pos rfl, e_X12_seaLine_194, if_neg (by decide), if_neg (by decide), if_pos rfl, e_X12_seaLine_233, r1, xb_some, if_neg (by decide), if_pos rfl, e_X12_seaLine_281, if_neg (by decide), if_pos rfl, xg_pos p18, xg_pos p19, xg_pos (by omega), v0.1]
    refine ⟨_, rfl, lnD_of s1 ln' (fun _ => ?_) ?_ (by rw [zup_ne (by omega)]; exact e20) (by rw [zup_ne (by omega)]; exact e21) (fun a j w _ => by rw [zup_ne (by omega)])⟩
    · rw [zup_tU, e8]
      rfl
    · obtain ⟨b5, b6, b49⟩ := hB.1 rfl
      refine ⟨fun _ => ?_, fun w => by omega, fun w => by omega⟩
      rw [zup_tU, e8, tU_ne (by decide), tU_ne (by decide), tU_ne (by decide)]
      exact ⟨b5, b6, b49⟩
  · intro i hi hK hj
    rw [e_X12_seaLine_165, if_neg (by decide), if_pos rfl, e_X12_seaLine_194, if_neg (by decide), if_neg (by decide), if_pos rfl, e_X12_seaLine_233]
    rcases (show i = 0 by omega) with rfl
    exact ⟨_, by rw [take_f hS hK, xb_some, if_pos rfl], hS.x pF.rfl'⟩
theorem deaf_e {u : Nat → Int} {N x n : Nat} {p : Int} {q0 : Int × Int} {h0 : yH} (hn : 1400 ≤ n) (hx : x ≤ N) (hS : rS u N x 6 0 q0 h0 0 h0) (hb : -1 ≤ h0 35 21 ∧ h0 35 21 ≤ 99) (hB : rB 0 (h0 8)) :
    ((∀ i, i < lnN 6 → tkK u N (tkN u N x (i + 1)) = 3) → ∃ h2, xq_X12_seaLine_165 n [35, 1684365670, p, 0] h0 = some (1, h2) ∧ lnD u N x 0 6 q0 h0 h2) ∧
    ∀ i, i < lnN 6 → tkK u N (tkN u N x (i + 1)) ≠ 3 → (∀ j, j < i → tkK u N (tkN u N x (j + 1)) = 3) → ∃ h2, xq_X12_seaLine_165 n [35, 1684365670, p, 0] h0 = some (0, h2) ∧ lnX1 (lp u N x i) h0 h2 := by
  have ln' : lnN 6 = 1 := by decide
  have t0 : tkK u N (tkN u N x 1) = 3 → ∃ h2, f_X12_take n [35, 0, 0, 5] h0 = some (1, h2) ∧ rS u N x 6 0 q0 h0 1 h2 := fun hK => take_t hn hx hS hK rfl (by decide) (fun _ => lnB_t (by decide) (by decide) (by decide))
  constructor
  · intro hK
    obtain ⟨h1, r1, s1⟩ := t0 (hK 0 (by omega))
    have e8 : h1 8 = h0 8 := by
      funext j
      exact s1.2.2.2.2.2.2.2 8 j (by omega) (by omega)
    have e20 : h1 35 20 = h0 35 20 := s1.2.2.2.2.2.2.2 35 20 (by omega) (by omega)
    have e21 : h1 35 21 = h0 35 21 := s1.2.2.2.2.2.2.2 35 21 (by omega) (by omega)
    have hv := s1.2.2.2.2.1
    have p18 : h1 35 18 = 8 := s1.1.2.2.2.2.2.2.2.2.2.2.2.1
    have p19 : h1 35 19 = 9 := s1.1.2.2.2.2.2.2.2.2.2.2.2.2
    have v0 := hv 0 (by decide)
    rw [Nat.zero_add] at v0
    obtain ⟨b5, b6, b49⟩ := hB.1 rfl
    rw [e_X12_seaLine_165, if_neg (by decide), if_neg (by decide), e_X12_seaLine_194, if_neg (by decide), if_neg (by decide), if_neg (by decide), e_X12_seaLine_233, r1, xb_some, if_neg (by decide), if_pos rfl, e_X12_seaLine_281, if_pos rfl, xg_pos p18, xg_pos p19, v0.1, e8, e21]
    by_cases h6 : lv u N x 0 < 6
    · have b := or6 (d := h0 8 49) (r := lv u N x 0) b49 (by omega)
      rw [if_pos h6, xg_pos p19, xg_pos (by omega), xg_pos p19, gr_e, xb_some, xg_pos (by omega)]
      refine ⟨_, rfl, lnD_of s1 ln' (fun _ => ?_) ?_ (by rw [zup_ne (by omega), zup_ne (by omega)]; exact e20) (by rw [zup_at]; rfl) (fun a j w w2 => by rw [zup_ne (by omega), zup_ne (by omega)])⟩
      · rw [zup_row (by decide), zup_tU, e8]
        rfl
      · refine ⟨fun _ => ?_, fun w => by omega, fun w => by omega⟩
        rw [zup_row (by decide), zup_tU, e8, tU_ne (by decide), tU_ne (by decide), tU_at]
        exact ⟨b5, b6, b⟩
    · rw [if_neg h6, or0 b49, xg_pos (by omega), xg_pos p19, gr_e, xb_some, xg_pos (by omega)]
      refine ⟨_, rfl, lnD_of s1 ln' (fun w => ?_) ?_ (by rw [zup_ne (by omega), zup_ne (by omega)]; exact e20) (by rw [zup_at]; rfl) (fun a j w w2 => by rw [zup_ne (by omega), zup_ne (by omega)])⟩
      · have h1 := w 0 (by decide)
        rw [lnB_t (lo := 0) (hi := 5) (by decide) (by decide) (by decide)] at h1
        omega
      · refine ⟨fun _ => ?_, fun w => by omega, fun w => by omega⟩
        rw [zup_row (by decide), zup_tU, e8, tU_ne (by decide), tU_ne (by decide), tU_at]
        exact ⟨b5, b6, b49⟩
  · intro i hi hK hj
    rw [e_X12_seaLine_165, if_neg (by decide), if_neg (by decide), e_X12_seaLine_194, if_neg (by decide), if_neg (by decide), if_neg (by decide), e_X12_seaLine_233]
    rcases (show i = 0 by omega) with rfl
    exact ⟨_, by rw [take_f hS hK, xb_some, if_pos rfl], hS.x pF.rfl'⟩
/-- which one is noted if it is one too many -/
noncomputable def ntF (q : Int × Int) (ln : Nat) (t : Nat → Int) (p : Int) : Int × Int := @nt q (lnAdds ln ∧ t (lnC ln) = lnM ln) (Classical.propDecidable _) 3 p
theorem ntF_le {q : Int × Int} {ln : Nat} {t : Nat → Int} {p : Int} (h : q.1 = 0 ∨ q.2 < p) : (ntF q ln t p).1 = 0 ∨ (ntF q ln t p).2 ≤ p := by
  unfold ntF nt
  split
  · exact Or.inr (Int.le_refl _)
  · rcases h with h | h
    · exact Or.inl h
    · exact Or.inr (by omega)
theorem ntF_n {q : Int × Int} {ln : Nat} {t : Nat → Int} {p : Int} (h : ¬ lnAdds ln) : ntF q ln t p = q := by
  unfold ntF
  exact @nt_f _ _ (Classical.propDecidable _) _ _ (fun w => h w.1)
set_option maxHeartbeats 1000000 in
theorem seaLine_e {u : Nat → Int} {N x n ln : Nat} {q : Int × Int} {h : yH} (hln : ln < 7) (hn : 1400 ≤ n) (hx : x ≤ N) (hc : rC u N h) (hA : tokA u N x h) (hK : tkK u N x ≠ 0) (hq : rN h q) (h0 : q.1 = 0 ∨ q.2 < (tkS u N x : Nat)) (hb20 : -1 ≤ h 35 20 ∧ h 35 20 ≤ 99) (hb21 : -1 ≤ h 35 21 ∧ h 35 21 ≤ 99) (hB : rB 0 (h 8)) :
    ((∀ i, i < lnN ln → tkK u N (tkN u N x (i + 1)) = 3) → ∃ h2, f_X12_seaLine n [35, lnW.getD ln 0, (tkS u N x : Nat)] h = some (1, h2) ∧ lnD u N x 0 ln (ntF q ln (h 8) (tkS u N x : Nat)) h h2) ∧
    ∀ i, i < lnN ln → tkK u N (tkN u N x (i + 1)) ≠ 3 → (∀ j, j < i → tkK u N (tkN u N x (j + 1)) = 3) → ∃ h2, f_X12_seaLine n [35, lnW.getD ln 0, (tkS u N x : Nat)] h = some (0, h2) ∧ lnX1 (lp u N x i) h h2 := by
  rcases (show ln = 0 ∨ ln = 1 ∨ ln = 2 ∨ ln = 3 ∨ ln = 4 ∨ ln = 5 ∨ ln = 6 by omega) with rfl | rfl | rfl | rfl | rfl | rfl | rfl
  · rw [show lnW.getD 0 0 = 1936292453 from rfl]
    obtain ⟨h2, r2, c2, a2, q2, l2, f2⟩ := start_e (n := n) (q := ntF q 0 (h 8) (tkS u N x : Nat)) hn hx hc hA hK (by rw [ntF_n (by unfold lnAdds; omega)]; exact hq) (ntF_le h0)
    have hS : rS u N x 0 0 (ntF q 0 (h 8) (tkS u N x : Nat)) (zup h2 35 22 1) 0 (zup h2 35 22 1) := rS_g c2 a2 q2 l2
    have e8 : (zup h2 35 22 1) 8 = h 8 := by
      funext j
      rw [zup_ne (by omega), f2 8 j (by omega)]
    have e20 : (zup h2 35 22 1) 35 20 = h 35 20 := by rw [zup_ne (by omega), f2 35 20 (by omega)]
    have e21 : (zup h2 35 22 1) 35 21 = h 35 21 := by rw [zup_ne (by omega), f2 35 21 (by omega)]
    have pp : pF h (zup h2 35 22 1) := pF.up (fun a j w => by rw [f2 a j (by omega)]) (by omega)
    rw [e_X12_seaLine, if_pos rfl, e_X12_seaLine_61, if_neg (by decide), if_neg (by decide), e_X12_seaLine_96, r2, xb_some, if_neg (by decide), if_neg (by decide), if_neg (by decide), if_pos rfl]
    obtain ⟨y1, y2⟩ := size_e (n := n) (p := (tkS u N x : Nat)) hn hx hS (by rw [e21]; exact hb21) (by rw [e8]; exact hB)
    refine ⟨fun hK3 => ?_, fun i hi hKi hj => ?_⟩
    · obtain ⟨g, g1, g2⟩ := y1 hK3
      exact ⟨g, by rw [g1], g2.back e8 e20 e21 pp⟩
    · obtain ⟨g, g1, g2⟩ := y2 i hi hKi hj
      exact ⟨g, by rw [g1], g2.back pp⟩
  · rw [show lnW.getD 1 0 = 2003398244 from rfl]
    obtain ⟨h2, r2, c2, a2, q2, l2, f2⟩ := start_e (n := n) (q := ntF q 1 (h 8) (tkS u N x : Nat)) hn hx hc hA hK (by rw [ntF_n (by unfold lnAdds; omega)]; exact hq) (ntF_le h0)
    have hS : rS u N x 1 0 (ntF q 1 (h 8) (tkS u N x : Nat)) (zup h2 35 22 1) 0 (zup h2 35 22 1) := rS_g c2 a2 q2 l2
    have e8 : (zup h2 35 22 1) 8 = h 8 := by
      funext j
      rw [zup_ne (by omega), f2 8 j (by omega)]
    have e20 : (zup h2 35 22 1) 35 20 = h 35 20 := by rw [zup_ne (by omega), f2 35 20 (by omega)]
    have e21 : (zup h2 35 22 1) 35 21 = h 35 21 := by rw [zup_ne (by omega), f2 35 21 (by omega)]
    have pp : pF h (zup h2 35 22 1) := pF.up (fun a j w => by rw [f2 a j (by omega)]) (by omega)
    rw [e_X12_seaLine, if_neg (by decide), if_pos rfl, e_X12_seaLine_61, if_neg (by decide), if_neg (by decide), e_X12_seaLine_96, r2, xb_some, if_neg (by decide), if_neg (by decide), if_neg (by decide), if_neg (by decide), if_pos rfl]
    obtain ⟨y1, y2⟩ := wind_e (n := n) (p := (tkS u N x : Nat)) hn hx hS (by rw [e21]; exact hb21) (by rw [e8]; exact hB)
    refine ⟨fun hK3 => ?_, fun i hi hKi hj => ?_⟩
    · obtain ⟨g, g1, g2⟩ := y1 hK3
      exact ⟨g, by rw [g1], g2.back e8 e20 e21 pp⟩
    · obtain ⟨g, g1, g2⟩ := y2 i hi hKi hj
      exact ⟨g, by rw [g1], g2.back pp⟩
  · rw [show lnW.getD 2 0 = 1852142707 from rfl]
    obtain ⟨h2, r2, c2, a2, q2, l2, f2⟩ := start_e (n := n) (q := ntF q 2 (h 8) (tkS u N x : Nat)) hn hx hc hA hK (by rw [ntF_n (by unfold lnAdds; omega)]; exact hq) (ntF_le h0)
    have hS : rS u N x 2 0 (ntF q 2 (h 8) (tkS u N x : Nat)) (zup h2 35 22 1) 0 (zup h2 35 22 1) := rS_g c2 a2 q2 l2
    have e8 : (zup h2 35 22 1) 8 = h 8 := by
      funext j
      rw [zup_ne (by omega), f2 8 j (by omega)]
    have e20 : (zup h2 35 22 1) 35 20 = h 35 20 := by rw [zup_ne (by omega), f2 35 20 (by omega)]
    have e21 : (zup h2 35 22 1) 35 21 = h 35 21 := by rw [zup_ne (by omega), f2 35 21 (by omega)]
    have pp : pF h (zup h2 35 22 1) := pF.up (fun a j w => by rw [f2 a j (by omega)]) (by omega)
    rw [e_X12_seaLine, if_neg (by decide), if_neg (by decide), if_pos rfl, e_X12_seaLine_61, if_neg (by decide), if_neg (by decide), e_X12_seaLine_96, r2, xb_some, if_neg (by decide), if_neg (by decide), if_neg (by decide), if_neg (by decide), if_neg (by decide)]
    obtain ⟨y1, y2⟩ := nets_e (n := n) (p := (tkS u N x : Nat)) hn hx hS (by rw [e21]; exact hb21) (by rw [e8]; exact hB)
    refine ⟨fun hK3 => ?_, fun i hi hKi hj => ?_⟩
    · obtain ⟨g, g1, g2⟩ := y1 hK3
      exact ⟨g, by rw [g1], g2.back e8 e20 e21 pp⟩
    · obtain ⟨g, g1, g2⟩ := y2 i hi hKi hj
      exact ⟨g, by rw [g1], g2.back pp⟩
  · rw [show lnW.getD 3 0 = 427070419828 from rfl]
    obtain ⟨h2, r2, c2, a2, q2, l2, f2⟩ := start_e (n := n) (q := ntF q 3 (h 8) (tkS u N x : Nat)) hn hx hc hA hK (by rw [ntF_n (by unfold lnAdds; omega)]; exact hq) (ntF_le h0)
    have hS : rS u N x 3 0 (ntF q 3 (h 8) (tkS u N x : Nat)) (zup h2 35 22 1) 0 (zup h2 35 22 1) := rS_g c2 a2 q2 l2
    have e8 : (zup h2 35 22 1) 8 = h 8 := by
      funext j
      rw [zup_ne (by omega), f2 8 j (by omega)]
    have e20 : (zup h2 35 22 1) 35 20 = h 35 20 := by rw [zup_ne (by omega), f2 35 20 (by omega)]
    have e21 : (zup h2 35 22 1) 35 21 = h 35 21 := by rw [zup_ne (by omega), f2 35 21 (by omega)]
    have pp : pF h (zup h2 35 22 1) := pF.up (fun a j w => by rw [f2 a j (by omega)]) (by omega)
    rw [e_X12_seaLine, if_neg (by decide), if_neg (by decide), if_neg (by decide), if_pos rfl, e_X12_seaLine_61, if_neg (by decide), if_neg (by decide), e_X12_seaLine_96, r2, xb_some, if_neg (by decide), if_neg (by decide), if_pos rfl]
    obtain ⟨y1, y2⟩ := coast_e (n := n) hn hx hS (zup_at _ _ _ _) (by rw [e8]; exact hB)
    refine ⟨fun hK3 => ?_, fun i hi hKi hj => ?_⟩
    · obtain ⟨g, g1, g2⟩ := y1 hK3
      exact ⟨g, by rw [g1, xb_some, xg_pos (by decide)], g2.back e8 e20 e21 pp⟩
    · obtain ⟨g, g1, g2⟩ := y2 i hi hKi hj
      exact ⟨g, by rw [g1, xb_some, xg_pos (by decide)], g2.back pp⟩
  · rw [show lnW.getD 4 0 = 495673368940 from rfl]
    obtain ⟨h1, r1, q1, f1⟩ := @full_e n h 5 4 (tkS u N x : Nat) q hc.2.2.2 (by decide) hq h0 (lnAdds 4 ∧ h 8 (lnC 4) = lnM 4) (Classical.propDecidable _) ⟨fun w => w.2, fun w => ⟨by unfold lnAdds; omega, w⟩⟩
    have q1 : rN h1 (ntF q 4 (h 8) (tkS u N x : Nat)) := q1
    have a1 : tokA u N x h1 := by
      obtain ⟨a1, a2, a3, a4, a5⟩ := hA
      exact ⟨by rw [f1 35 9 (by omega)]; exact a1, by rw [f1 35 11 (by omega)]; exact a2, by rw [f1 35 12 (by omega)]; exact a3, fun w => by rw [f1 35 13 (by omega)]; exact a4 w, fun w => by rw [f1 35 14 (by omega)]; exact a5 w⟩
    have c1 : rC u N h1 := ⟨by
        rw [← hc.1]
        funext i
        unfold uR
        rw [f1 0 i (by omega)], by rw [f1 35 10 (by omega)]; exact hc.2.1, hc.2.2.1, hc.2.2.2.fr (fun j hj => f1 35 j (by omega))⟩
    obtain ⟨h2, r2, c2, a2, q2, l2, f2⟩ := start_e (n := n) hn hx c1 a1 hK q1 (ntF_le h0)
    have hS : rS u N x 4 0 (ntF q 4 (h 8) (tkS u N x : Nat)) (zup h2 35 22 1) 0 (zup h2 35 22 1) := rS_g c2 a2 q2 l2
    have e8 : (zup h2 35 22 1) 8 = h 8 := by
      funext j
      rw [zup_ne (by omega), f2 8 j (by omega), f1 8 j (by omega)]
    have e20 : (zup h2 35 22 1) 35 20 = h 35 20 := by rw [zup_ne (by omega), f2 35 20 (by omega), f1 35 20 (by omega)]
    have e21 : (zup h2 35 22 1) 35 21 = h 35 21 := by rw [zup_ne (by omega), f2 35 21 (by omega), f1 35 21 (by omega)]
    have pp : pF h (zup h2 35 22 1) := pF.up (fun a j w => by rw [f2 a j (by omega), f1 a j (by omega)]) (by omega)
    have er : f_X12_full n [35, 5, 4, (tkS u N x : Nat)] h = some (0, h1) := r1
    rw [e_X12_seaLine, if_neg (by decide), if_neg (by decide), if_neg (by decide), if_neg (by decide), if_pos rfl, e_X12_seaLine_61, if_pos rfl, er, xb_some, e_X12_seaLine_96, r2, xb_some, if_pos rfl]
    obtain ⟨y1, y2⟩ := shoal_e (n := n) hn hx hS (by rw [e20]; exact hb20) (by rw [e8]; exact hB)
    refine ⟨fun hK3 => ?_, fun i hi hKi hj => ?_⟩
    · obtain ⟨g, g1, g2⟩ := y1 hK3
      exact ⟨g, by rw [g1, xb_some, xg_pos (by decide)], g2.back e8 e20 e21 pp⟩
    · obtain ⟨g, g1, g2⟩ := y2 i hi hKi hj
      exact ⟨g, by rw [g1, xb_some, xg_pos (by decide)], g2.back pp⟩
  · rw [show lnW.getD 5 0 = 1651466612 from rfl]
    obtain ⟨h1, r1, q1, f1⟩ := @full_e n h 6 6 (tkS u N x : Nat) q hc.2.2.2 (by decide) hq h0 (lnAdds 5 ∧ h 8 (lnC 5) = lnM 5) (Classical.propDecidable _) ⟨fun w => w.2, fun w => ⟨by unfold lnAdds; omega, w⟩⟩
    have q1 : rN h1 (ntF q 5 (h 8) (tkS u N x : Nat)) := q1
    have a1 : tokA u N x h1 := by
      obtain ⟨a1, a2, a3, a4, a5⟩ := hA
      exact ⟨by rw [f1 35 9 (by omega)]; exact a1, by rw [f1 35 11 (by omega)]; exact a2, by rw [f1 35 12 (by omega)]; exact a3, fun w => by rw [f1 35 13 (by omega)]; exact a4 w, fun w => by rw [f1 35 14 (by omega)]; exact a5 w⟩
    have c1 : rC u N h1 := ⟨by
        rw [← hc.1]
        funext i
        unfold uR
        rw [f1 0 i (by omega)], by rw [f1 35 10 (by omega)]; exact hc.2.1, hc.2.2.1, hc.2.2.2.fr (fun j hj => f1 35 j (by omega))⟩
    obtain ⟨h2, r2, c2, a2, q2, l2, f2⟩ := start_e (n := n) hn hx c1 a1 hK q1 (ntF_le h0)
    have hS : rS u N x 5 0 (ntF q 5 (h 8) (tkS u N x : Nat)) (zup h2 35 22 1) 0 (zup h2 35 22 1) := rS_g c2 a2 q2 l2
    have e8 : (zup h2 35 22 1) 8 = h 8 := by
      funext j
      rw [zup_ne (by omega), f2 8 j (by omega), f1 8 j (by omega)]
    have e20 : (zup h2 35 22 1) 35 20 = h 35 20 := by rw [zup_ne (by omega), f2 35 20 (by omega), f1 35 20 (by omega)]
    have e21 : (zup h2 35 22 1) 35 21 = h 35 21 := by rw [zup_ne (by omega), f2 35 21 (by omega), f1 35 21 (by omega)]
    have pp : pF h (zup h2 35 22 1) := pF.up (fun a j w => by rw [f2 a j (by omega), f1 a j (by omega)]) (by omega)
    have er : f_X12_full n [35, 6, 6, (tkS u N x : Nat)] h = some (0, h1) := r1
    rw [e_X12_seaLine, if_neg (by decide), if_neg (by decide), if_neg (by decide), if_neg (by decide), if_neg (by decide), if_pos rfl, e_X12_seaLine_61, if_neg (by decide), if_pos rfl, er, xb_some, e_X12_seaLine_96, r2, xb_some, if_neg (by decide), if_pos rfl]
    obtain ⟨y1, y2⟩ := boat_e (n := n) hn hx hS (by rw [e20]; exact hb20) (by rw [e8]; exact hB)
    refine ⟨fun hK3 => ?_, fun i hi hKi hj => ?_⟩
    · obtain ⟨g, g1, g2⟩ := y1 hK3
      exact ⟨g, by rw [g1, xb_some, xg_pos (by decide)], g2.back e8 e20 e21 pp⟩
    · obtain ⟨g, g1, g2⟩ := y2 i hi hKi hj
      exact ⟨g, by rw [g1, xb_some, xg_pos (by decide)], g2.back pp⟩
  · rw [show lnW.getD 6 0 = 1684365670 from rfl]
    obtain ⟨h2, r2, c2, a2, q2, l2, f2⟩ := start_e (n := n) (q := ntF q 6 (h 8) (tkS u N x : Nat)) hn hx hc hA hK (by rw [ntF_n (by unfold lnAdds; omega)]; exact hq) (ntF_le h0)
    have hS : rS u N x 6 0 (ntF q 6 (h 8) (tkS u N x : Nat)) (zup h2 35 22 1) 0 (zup h2 35 22 1) := rS_g c2 a2 q2 l2
    have e8 : (zup h2 35 22 1) 8 = h 8 := by
      funext j
      rw [zup_ne (by omega), f2 8 j (by omega)]
    have e20 : (zup h2 35 22 1) 35 20 = h 35 20 := by rw [zup_ne (by omega), f2 35 20 (by omega)]
    have e21 : (zup h2 35 22 1) 35 21 = h 35 21 := by rw [zup_ne (by omega), f2 35 21 (by omega)]
    have pp : pF h (zup h2 35 22 1) := pF.up (fun a j w => by rw [f2 a j (by omega)]) (by omega)
    rw [e_X12_seaLine, if_neg (by decide), if_neg (by decide), if_neg (by decide), if_neg (by decide), if_neg (by decide), if_neg (by decide), if_pos rfl, e_X12_seaLine_61, if_neg (by decide), if_neg (by decide), e_X12_seaLine_96, r2, xb_some, if_neg (by decide), if_neg (by decide), if_neg (by decide), if_neg (by decide), if_neg (by decide)]
    obtain ⟨y1, y2⟩ := deaf_e (n := n) (p := (tkS u N x : Nat)) hn hx hS (by rw [e21]; exact hb21) (by rw [e8]; exact hB)
    refine ⟨fun hK3 => ?_, fun i hi hKi hj => ?_⟩
    · obtain ⟨g, g1, g2⟩ := y1 hK3
      exact ⟨g, by rw [g1], g2.back e8 e20 e21 pp⟩
    · obtain ⟨g, g1, g2⟩ := y2 i hi hKi hj
      exact ⟨g, by rw [g1], g2.back pp⟩
theorem seaLine_n {n : Nat} {w p : Int} {h : yH} (hw : ∀ ln, ln < 7 → w ≠ lnW.getD ln 0) : f_X12_seaLine n [35, w, p] h = some (0, zup h 35 15 (h 35 11)) := by
  rw [e_X12_seaLine, if_neg (show ¬ w = 1936292453 from hw 0 (by decide)), if_neg (show ¬ w = 2003398244 from hw 1 (by decide)), if_neg (show ¬ w = 1852142707 from hw 2 (by decide)), if_neg (show ¬ w = 427070419828 from hw 3 (by decide)), if_neg (show ¬ w = 495673368940 from hw 4 (by decide)), if_neg (show ¬ w = 1651466612 from hw 5 (by decide)), if_neg (show ¬ w = 1684365670 from hw 6 (by decide)), fails_e, xb_some, xg_pos (by decide)]
end
