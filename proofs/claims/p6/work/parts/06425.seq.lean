/-! the reference: numbers of a line, one after the other -/
theorem tkE_ge {u : Nat → Int} {N x : Nat} : tkS u N x ≤ tkE u N x := by
  unfold tkE
  split
  · exact Nat.le_refl _
  · split
    · exact tGo_le
    · split
      · exact tGo_le
      · omega
theorem tkS_ge {u : Nat → Int} {N x : Nat} : x ≤ tkS u N x := tGo_le
theorem tkK_lt {u : Nat → Int} {N x : Nat} (h : tkK u N x ≠ 0) : tkS u N x < N := by
  unfold tkK at h
  split at h
  · exact absurd rfl h
  · omega
/-- places grow -/
theorem tkS_next {u : Nat → Int} {N x : Nat} (h : tkK u N x ≠ 0) : tkS u N x < tkS u N (tkE u N x) := Nat.lt_of_lt_of_le (tkE_gt (tkK_lt h)) tkS_ge
theorem tkN_n {u : Nat → Int} {N x : Nat} (hx : x ≤ N) : ∀ i, tkN u N x i ≤ N := by
  intro i
  induction i with
  | zero => exact hx
  | succ i ih => exact tkE_n ih
/-- the i-th number of a line, its place -/
def lv (u : Nat → Int) (N x : Nat) : Nat → Int := fun i => tkV u N (tkN u N x (i + 1))
def lp (u : Nat → Int) (N x : Nat) : Nat → Int := fun i => (tkS u N (tkN u N x (i + 1)) : Nat)
/-- cells of which a line's numbers are none: told all else -/
def sqF (off i : Nat) (h h2 : yH) : Prop := ∀ a j, ¬ (a = 35 ∧ (j = 9 ∨ (11 ≤ j ∧ j ≤ 14) ∨ j = 16 ∨ j = 17 ∨ j = 22)) → ¬ (a = 9 ∧ off ≤ j ∧ j < off + i) → h2 a j = h a j
/-- i numbers of a line are taken -/
def rS (u : Nat → Int) (N x ln off : Nat) (q0 : Int × Int) (h0 : yH) (i : Nat) (h : yH) : Prop :=
  rC u N h ∧ tokA u N (tkN u N x (i + 1)) h ∧ rN h (ntL ln (lv u N x) (lp u N x) q0 i) ∧ ((ntL ln (lv u N x) (lp u N x) q0 i).1 = 0 ∨ (ntL ln (lv u N x) (lp u N x) q0 i).2 < lp u N x i) ∧ (∀ j, j < i → h 9 (off + j) = lv u N x j ∧ 0 ≤ lv u N x j ∧ lv u N x j ≤ 99) ∧
  ((∀ j, j < i → ¬ lnB ln (lv u N x) j) → h 35 22 = h0 35 22) ∧ ((∃ j, j < i ∧ lnB ln (lv u N x) j) → h 35 22 = 0) ∧ sqF off i h0 h
theorem rS_0 {u : Nat → Int} {N x ln off : Nat} {q0 : Int × Int} {h0 : yH} (hc : rC u N h0) (hA : tokA u N (tkN u N x 1) h0) (hq : rN h0 q0) (hp : q0.1 = 0 ∨ q0.2 < lp u N x 0) : rS u N x ln off q0 h0 0 h0 :=
  ⟨hc, hA, hq, hp, fun j hj => by omega, fun _ => rfl, fun ⟨j, hj, _⟩ => by omega, fun _ _ _ _ => rfl⟩
theorem rS_f {u : Nat → Int} {N x ln off i n : Nat} {q0 : Int × Int} {h0 h : yH} {k lo hi but : Int} (hS : rS u N x ln off q0 h0 i h) (hK : tkK u N (tkN u N x (i + 1)) ≠ 3) : f_X12_takeBut n [35, k, lo, hi, but] h = some (0, zup h 35 15 (lp u N x i)) := takeBut_n hS.2.1 hK
theorem rS_t {u : Nat → Int} {N x ln off i n : Nat} {q0 : Int × Int} {h0 h : yH} {k lo hi but : Int} (hn : 1400 ≤ n) (hx : x ≤ N) (hS : rS u N x ln off q0 h0 i h) (hK : tkK u N (tkN u N x (i + 1)) = 3) (hk : k = ((off + i : Nat) : Int)) (hk5 : off + i < 5) (hB : lnB ln (lv u N x) i ↔ ¬ (lo ≤ lv u N x i ∧ lv u N x i ≤ hi) ∨ lv u N x i = but) :
    ∃ h2, f_X12_takeBut n [35, k, lo, hi, but] h = some (1, h2) ∧ rS u N x ln off q0 h0 (i + 1) h2 := by
  obtain ⟨hc, hA, hq, hp, hv, hg1, hg2, hF⟩ := hS
  subst hk
  obtain ⟨h2, r0, r1, r2, r3, r4, r5⟩ := @takeBut_t u N (tkN u N x (i + 1)) n h lo hi but (off + i) (ntL ln (lv u N x) (lp u N x) q0 i) hn hc (tkN_n hx _) hA hK hk5 hq hp (lnB ln (lv u N x) i) (Classical.propDecidable _) hB
  have hb := tkV_b hK
  refine ⟨h2, r0, r5.c hc, r1, r3, ?_, fun j hj => ?_, fun hb2 => ?_, fun ⟨j, hj, hb2⟩ => ?_, fun a j w1 w2 => ?_⟩
  · have hs := tkS_next (u := u) (N := N) (x := tkN u N x (i + 1)) (by omega)
    show (@nt _ _ (Classical.propDecidable _) 2 (lp u N x i)).1 = 0 ∨ (@nt _ _ (Classical.propDecidable _) 2 (lp u N x i)).2 < _
    have e1 : lp u N x i < lp u N x (i + 1) := by
      unfold lp
      show ((tkS u N (tkN u N x (i + 1)) : Nat) : Int) < ((tkS u N (tkE u N (tkN u N x (i + 1))) : Nat) : Int)
      omega
    unfold nt
    split
    · exact Or.inr e1
    · rcases hp with hp | hp
      · exact Or.inl hp
      · exact Or.inr (by omega)
  · by_cases e : j = i
    · subst e
      exact ⟨r2, hb⟩
    · have := hv j (by omega)
      rw [r5 9 (off + j) (by omega) (by omega)]
      exact this
  · rw [r4, if_neg (hb2 i (by omega))]
    exact hg1 (fun j hj => hb2 j (by omega))
  · rw [r4]
    by_cases hbi : lnB ln (lv u N x) i
    · rw [if_pos hbi]
    · rw [if_neg hbi]
      by_cases e : j = i
      · subst e
        exact absurd hb2 hbi
      · exact hg2 ⟨j, by omega, hb2⟩
  · rw [r5 a j w1 (by omega)]
    exact hF a j w1 (by omega)
/-- the same by take() -/
theorem take_f {u : Nat → Int} {N x ln off i n : Nat} {q0 : Int × Int} {h0 h : yH} {k lo hi : Int} (hS : rS u N x ln off q0 h0 i h) (hK : tkK u N (tkN u N x (i + 1)) ≠ 3) : f_X12_take n [35, k, lo, hi] h = some (0, zup h 35 15 (lp u N x i)) := by
  rw [e_X12_take, rS_f hS hK, xb_some, xg_pos (by decide)]
theorem take_t {u : Nat → Int} {N x ln off i n : Nat} {q0 : Int × Int} {h0 h : yH} {k lo hi : Int} (hn : 1400 ≤ n) (hx : x ≤ N) (hS : rS u N x ln off q0 h0 i h) (hK : tkK u N (tkN u N x (i + 1)) = 3) (hk : k = ((off + i : Nat) : Int)) (hk5 : off + i < 5) (hB : 0 ≤ lv u N x i → (lnB ln (lv u N x) i ↔ ¬ (lo ≤ lv u N x i ∧ lv u N x i ≤ hi))) :
    ∃ h2, f_X12_take n [35, k, lo, hi] h = some (1, h2) ∧ rS u N x ln off q0 h0 (i + 1) h2 := by
  have hb : 0 ≤ lv u N x i := (tkV_b hK).1
  obtain ⟨h2, r0, r1⟩ := rS_t (but := -1) hn hx hS hK hk hk5 (by
    rw [hB hb]
    exact ⟨Or.inl, fun w => w.resolve_right (by omega)⟩)
  exact ⟨h2, by rw [e_X12_take, r0, xb_some, xg_pos (by decide)], r1⟩
/-! a further one -/
theorem keep_l {n : Nat} {h : yH} {ct from_ wide most c : Nat} (h18 : h 35 18 = 8) (h19 : h 35 19 = 9) (hc : h 8 ct = (c : Int)) (hct : ct < from_) (hw : wide ≤ 5) (hm : from_ + wide * c + wide ≤ 121) (hc9 : c ≤ 98) (hv : ∀ i, i < wide → -1 ≤ h 9 i ∧ h 9 i ≤ 99) :
    ∀ (m i : Nat) (g : yH), wide - i = m → m < n → i ≤ wide → (∀ a j, g a j = if a = 8 ∧ from_ + wide * c ≤ j ∧ j < from_ + wide * c + i then h 9 (j - (from_ + wide * c)) else h a j) →
      ∃ h2, xl_X12_keep n 19 [35, (ct : Int), (from_ : Int), (wide : Int), (most : Int), (c : Int), (i : Int)] g = some (0, h2) ∧ ∀ a j, h2 a j = if a = 8 then (if j = ct then (c : Int) + 1 else if from_ + wide * c ≤ j ∧ j < from_ + wide * c + wide then h 9 (j - (from_ + wide * c)) else h 8 j) else h a j := by
  have hwc : ((wide : Int) * (c : Int)) = ((wide * c : Nat) : Int) := by rw [Int.natCast_mul]
  intro m
  generalize hW : wide * c = wc at *
  revert n
  induction m with
  | zero =>
    intro n i g e1 e2 hi hg
    obtain ⟨n, rfl⟩ : ∃ n', n = n' + 1 := ⟨n - 1, by omega⟩
    have g18 : g 35 18 = 8 := by rw [hg, if_neg (by omega)]; exact h18
    have gc : g 8 ct = (c : Int) := by rw [hg, if_neg (by omega)]; exact hc
    rw [e_X12_keep_19, if_neg (by omega), xg_pos g18, xg_pos (by omega), Int.toNat_natCast, gc, xg_pos (by omega), xg_pos (by omega), xg_pos (by omega)]
    refine ⟨_, rfl, fun a j => ?_⟩
    have ew : i = wide := by omega
    subst ew
    by_cases ha : a = 8
    · subst ha
      rw [if_pos rfl]
      by_cases hj : j = ct
      · subst hj
        rw [zup_at, if_pos rfl]
      · rw [zup_ne (by omega), hg, if_neg hj]
        by_cases hr : from_ + wc ≤ j ∧ j < from_ + wc + i
        · rw [if_pos ⟨rfl, hr⟩, if_pos hr]
        · rw [if_neg (fun w => hr w.2), if_neg hr]
    · rw [zup_ne (by omega), hg, if_neg (fun w => ha w.1), if_neg ha]
  | succ m ih =>
    intro n i g e1 e2 hi hg
    obtain ⟨n, rfl⟩ : ∃ n', n = n' + 1 := ⟨n - 1, by omega⟩
    have g18 : g 35 18 = 8 := by rw [hg, if_neg (by omega)]; exact h18
    have g19 : g 35 19 = 9 := by rw [hg, if_neg (by omega)]; exact h19
    have gi : g 9 i = h 9 i := by rw [hg, if_neg (by omega)]
    have hvi := hv i (by omega)
    rw [e_X12_keep_19, if_pos (by omega), xg_pos g18, hwc, xg_pos (by omega), xg_pos (by omega), xg_pos (by omega), xg_pos g19, xg_pos (by omega), xg_pos (by omega), Int.toNat_natCast, gi, xg_pos (by omega), xg_pos (by omega), show ((from_ : Int) + ((wc : Nat) : Int) + (i : Int)).toNat = from_ + wc + i by omega]
    refine ih (n := n) (i + 1) _ (by omega) (by omega) (by omega) (fun a j => ?_)
    by_cases hr : a = 8 ∧ j = from_ + wc + i
    · obtain ⟨rfl, rfl⟩ := hr
      rw [zup_at, if_pos (by omega), show from_ + wc + i - (from_ + wc) = i by omega]
    · rw [zup_ne hr, hg]
      by_cases hr2 : a = 8 ∧ from_ + wc ≤ j ∧ j < from_ + wc + i
      · rw [if_pos hr2, if_pos (by omega)]
      · rw [if_neg hr2, if_neg (by omega)]
theorem keep_e {n : Nat} {h : yH} {ct from_ wide most : Nat} (hn : 10 ≤ n) (hp : rP h) (hc0 : 0 ≤ h 8 ct) (hcm : h 8 ct ≤ (most : Int)) (hct : ct < from_) (hw : wide ≤ 5) (hm : from_ + wide * most ≤ 121) (hm9 : most ≤ 98) (hv : ∀ i, i < wide → -1 ≤ h 9 i ∧ h 9 i ≤ 99) :
    ∃ h2, f_X12_keep n [35, (ct : Int), (from_ : Int), (wide : Int), (most : Int)] h = some (0, h2) ∧ h2 8 = tK (h 8) ct from_ wide most (h 9) ∧ ∀ a j, a ≠ 8 → h2 a j = h a j := by
  have p18 : h 35 18 = 8 := hp.2.2.2.2.2.2.2.2.1
  have p19 : h 35 19 = 9 := hp.2.2.2.2.2.2.2.2.2
  obtain ⟨c, hc⟩ : ∃ c : Nat, h 8 ct = (c : Int) := ⟨(h 8 ct).toNat, by omega⟩
  have h1 : wide * c ≤ wide * most := Nat.mul_le_mul_left wide (by omega)
  rw [e_X12_keep, xg_pos p18, xg_pos (by omega), Int.toNat_natCast]
  by_cases hf : h 8 ct = (most : Int)
  · rw [if_pos hf]
    refine ⟨h, rfl, ?_, fun _ _ _ => rfl⟩
    unfold tK
    rw [if_pos hf]
  · rw [if_neg hf, hc]
    have h2 : wide * (c + 1) ≤ wide * most := Nat.mul_le_mul_left wide (by omega)
    rw [Nat.mul_succ] at h2
    obtain ⟨h2, r0, r1⟩ := keep_l (n := n) (most := most) p18 p19 hc hct hw (by omega) (by omega) hv wide 0 h (by omega) (by omega) (by omega) (fun a j => by rw [if_neg (by omega)])
    refine ⟨h2, r0, ?_, fun a j ha => by rw [r1, if_neg ha]⟩
    funext j
    rw [r1, if_pos rfl]
    unfold tK
    rw [if_neg hf, hc, Int.toNat_natCast]
