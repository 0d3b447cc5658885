/-! the reference: lines of a sea -/
/-- what is kept from call to call -/
def pF (h h2 : yH) : Prop := ∀ a j, a ≤ 7 ∨ a = 34 → h2 a j = h a j
theorem pF.rfl' {h : yH} : pF h h := fun _ _ _ => rfl
theorem pF.tr {h h1 h2 : yH} (f : pF h h1) (g : pF h1 h2) : pF h h2 := fun a j w => (g a j w).trans (f a j w)
theorem pF.up {h h1 : yH} {a j : Nat} {x : Int} (f : pF h h1) (ha : ¬ (a ≤ 7 ∨ a = 34)) : pF h (zup h1 a j x) := fun b i w => by
  rw [zup_ne (fun e => ha (by rw [← e.1]; exact w))]
  exact f b i w
theorem sqF.p {off i : Nat} {h h2 : yH} (f : sqF off i h h2) : pF h h2 := fun a j w => f a j (by omega) (by omega)
theorem tokF.p {h h2 : yH} (f : tokF h h2) : pF h h2 := fun a j w => f a j (by omega)
theorem tokF.c {u : Nat → Int} {N : Nat} {h h2 : yH} (f : tokF h h2) (hc : rC u N h) : rC u N h2 :=
  ⟨by
    rw [← hc.1]
    funext i
    unfold uR
    rw [f 0 i (by omega)], (f 35 10 (by omega)).trans hc.2.1, hc.2.2.1, hc.2.2.2.fr (fun j hj => f 35 j (by omega))⟩
/-- how many there are is within its bounds -/
def rB (of : Nat) (t : Nat → Int) : Prop := (of = 0 → (0 ≤ t 5 ∧ t 5 ≤ 4) ∧ (0 ≤ t 6 ∧ t 6 ≤ 6) ∧ 0 ≤ t 49 ∧ t 49 ≤ 63) ∧ (of = 1 → 0 ≤ t 0 ∧ t 0 ≤ 30) ∧ (of = 2 → (0 ≤ t 0 ∧ t 0 ≤ 9) ∧ 0 ≤ t 1 ∧ t 1 ≤ 16)
/-- a line is read -/
def lnD (u : Nat → Int) (N x of ln : Nat) (q0 : Int × Int) (h0 h2 : yH) : Prop :=
  rC u N h2 ∧ tokA u N (tkN u N x (lnN ln + 1)) h2 ∧ rN h2 (ntL ln (lv u N x) (lp u N x) q0 (lnN ln)) ∧ ((ntL ln (lv u N x) (lp u N x) q0 (lnN ln)).1 = 0 ∨ (ntL ln (lv u N x) (lp u N x) q0 (lnN ln)).2 < lp u N x (lnN ln)) ∧
  ((∀ j, j < lnN ln → ¬ lnB ln (lv u N x) j) → h2 8 = lnT ln (lv u N x) (h0 8)) ∧ rB of (h2 8) ∧ h2 35 20 = lnFc ln (lv u N x) (h0 35 20) ∧ h2 35 21 = lnFo ln (lv u N x) (h0 35 21) ∧ pF h0 h2
/-- a text breaks off -/
def lnX1 (p : Int) (h0 h2 : yH) : Prop := h2 35 15 = p ∧ rP h2 ∧ pF h0 h2
theorem rS.up {u : Nat → Int} {N x ln off i : Nat} {q0 : Int × Int} {h0 h : yH} {s : Nat} {y : Int} (hS : rS u N x ln off q0 h0 i h) (hs : s = 20 ∨ s = 21) : rS u N x ln off q0 (zup h0 35 s y) i (zup h 35 s y) := by
  obtain ⟨hc, hA, hq, hp, hv, hg1, hg2, hF⟩ := hS
  refine ⟨hc.up (by decide) (by omega), ?_, ?_, hp, fun j hj => ?_, fun w => ?_, fun w => ?_, fun a j w1 w2 => ?_⟩
  · obtain ⟨a1, a2, a3, a4, a5⟩ := hA
    exact ⟨by rw [zup_ne (by omega)]; exact a1, by rw [zup_ne (by omega)]; exact a2, by rw [zup_ne (by omega)]; exact a3, fun w => by rw [zup_ne (by omega)]; exact a4 w, fun w => by rw [zup_ne (by omega)]; exact a5 w⟩
  · obtain ⟨b1, b2, b3, b4⟩ := hq
    exact ⟨by rw [zup_ne (by omega)]; exact b1, fun w => by rw [zup_ne (by omega)]; exact b2 w, b3, b4⟩
  · rw [zup_ne (by omega)]
    exact hv j hj
  · rw [zup_ne (by omega), zup_ne (by omega)]
    exact hg1 w
  · rw [zup_ne (by omega)]
    exact hg2 w
  · rw [zup_app, zup_app, hF a j w1 w2]
theorem cell_f {u : Nat → Int} {N x ln n : Nat} {q0 : Int × Int} {h0 h : yH} (hS : rS u N x ln 0 q0 h0 0 h) (hK : tkK u N (tkN u N x 1) ≠ 3) (hb : -1 ≤ h0 35 20 ∧ h0 35 20 ≤ 99) : ∃ h2, f_X12_takeCell n [35, 0] h = some (0, h2) ∧ lnX1 (lp u N x 0) h0 h2 := by
  have e20 : h 35 20 = h0 35 20 := hS.2.2.2.2.2.2.2 35 20 (by omega) (by omega)
  rw [e_X12_takeCell, take_f hS hK, xb_some, if_pos rfl, zup_ne (by omega), e20, xg_pos hb, xg_pos (by decide)]
  refine ⟨_, rfl, by rw [zup_ne (by omega), zup_at], (hS.1.2.2.2.up (by omega)).up (by omega), (hS.2.2.2.2.2.2.2.p.up (by omega)).up (by omega)⟩
theorem cell_t {u : Nat → Int} {N x ln n : Nat} {q0 : Int × Int} {h0 h : yH} (hn : 1400 ≤ n) (hx : x ≤ N) (hS : rS u N x ln 0 q0 h0 0 h) (hK : tkK u N (tkN u N x 1) = 3) (hb : -1 ≤ h0 35 20 ∧ h0 35 20 ≤ 99) (hB : 0 ≤ lv u N x 0 → (lnB ln (lv u N x) 0 ↔ ¬ (0 ≤ lv u N x 0 ∧ lv u N x 0 ≤ 63))) :
    ∃ h2, f_X12_takeCell n [35, 0] h = some (1, h2) ∧ rS u N x ln 0 q0 (zup h0 35 20 (max (h0 35 20) (lv u N x 0))) 1 h2 := by
  obtain ⟨h1, r0, r1⟩ := take_t (k := 0) hn hx hS hK rfl (by decide) hB
  have e20 : h1 35 20 = h0 35 20 := r1.2.2.2.2.2.2.2 35 20 (by omega) (by omega)
  have e0 := r1.2.2.2.2.1 0 (by decide)
  have p19 : h1 35 19 = 9 := r1.1.2.2.2.2.2.2.2.2.2.2.2.2
  have e9 : h1 9 0 = lv u N x 0 := e0.1
  rw [e_X12_takeCell, r0, xb_some, if_neg (by decide), xg_pos p19, xg_pos (by decide), gr_e, xb_some, e20, show (0 : Int).toNat = 0 from rfl, e9, xg_pos (by omega), xg_pos (by decide)]
  exact ⟨_, rfl, r1.up (Or.inl rfl)⟩
theorem tK_congr {t : Nat → Int} {ct from_ wide most : Nat} {v w : Nat → Int} (h : ∀ i, i < wide → v i = w i) : tK t ct from_ wide most v = tK t ct from_ wide most w := by
  unfold tK
  split
  · rfl
  · funext i
    split
    · rfl
    · split
      · rename_i hr
        exact h _ (by omega)
      · rfl
theorem tK_ct {t : Nat → Int} {ct from_ wide most : Nat} {v : Nat → Int} (h0 : 0 ≤ t ct) (h1 : t ct ≤ (most : Int)) : 0 ≤ tK t ct from_ wide most v ct ∧ tK t ct from_ wide most v ct ≤ (most : Int) := by
  unfold tK
  split
  · exact ⟨h0, h1⟩
  · simp only [if_true]
    omega
theorem tK_lo {t : Nat → Int} {ct from_ wide most i : Nat} {v : Nat → Int} (h : i ≠ ct) (h1 : i < from_) : tK t ct from_ wide most v i = t i := by
  unfold tK
  split
  · rfl
  · simp only
    rw [if_neg h, if_neg (by omega)]
theorem tK_hi {t : Nat → Int} {ct from_ wide most i : Nat} {v : Nat → Int} (h0 : 0 ≤ t ct) (hc : t ct ≤ (most : Int)) (h : i ≠ ct) (h1 : from_ + wide * most ≤ i) : tK t ct from_ wide most v i = t i := by
  unfold tK
  split
  · rfl
  · rename_i hne
    have h2 : wide * ((t ct).toNat + 1) ≤ wide * most := Nat.mul_le_mul_left wide (by omega)
    rw [Nat.mul_succ] at h2
    simp only
    rw [if_neg h, if_neg (by omega)]
/-- a line with three numbers, a further one -/
theorem line3 {u : Nat → Int} {N x ln n ct from_ most : Nat} {q0 : Int × Int} {h0 h3 : yH} (hn : 1400 ≤ n) (hS : rS u N x ln 0 q0 (zup h0 35 20 (max (h0 35 20) (lv u N x 0))) 3 h3) (hln : lnN ln = 3) (hT : lnT ln = fun v t => tK t ct from_ 3 most v) (hc0 : 0 ≤ h0 8 ct ∧ h0 8 ct ≤ (most : Int)) (hct : ct < from_) (hm : from_ + 3 * most ≤ 49) (hB : rB 0 (h0 8)) (hcc : (ct = 5 ∧ most = 4 ∧ from_ = 19) ∨ (ct = 6 ∧ most = 6 ∧ from_ = 31)) (hf1 : ∀ c, lnFc ln (lv u N x) c = max c (lv u N x 0)) (hf2 : lnFo ln (lv u N x) = fun o => o) :
    ∃ h2, f_X12_keep n [35, (ct : Int), (from_ : Int), 3, (most : Int)] h3 = some (0, h2) ∧ lnD u N x 0 ln q0 h0 h2 := by
  obtain ⟨hc, hA, hq, hp, hv, hg1, hg2, hF⟩ := hS
  have e8 : h3 8 = h0 8 := by
    funext j
    rw [hF 8 j (by omega) (by omega), zup_ne (by omega)]
  obtain ⟨h2, r0, r1, r2⟩ := keep_e (n := n) (h := h3) (ct := ct) (from_ := from_) (wide := 3) (most := most) (by omega) hc.2.2.2 (by rw [e8]; exact hc0.1) (by rw [e8]; exact hc0.2) hct (by decide) (by omega) (by omega) (fun i hi => by
    have := hv i hi
    rw [Nat.zero_add] at this
    omega)
  have hr1 : h2 8 = tK (h0 8) ct from_ 3 most (lv u N x) := by
    rw [r1, e8]
    exact tK_congr (fun i hi => by
      have := (hv i hi).1
      rw [Nat.zero_add] at this
      exact this)
  refine ⟨h2, r0, ?_, ?_, ?_, ?_, ?_, ?_, ?_, ?_, ?_⟩
  · exact ⟨by
      rw [← hc.1]
      funext i
      unfold uR
      rw [r2 0 i (by decide)], by rw [r2 35 10 (by decide)]; exact hc.2.1, hc.2.2.1, hc.2.2.2.fr (fun j _ => r2 35 j (by decide))⟩
  · rw [hln]
    obtain ⟨a1, a2, a3, a4, a5⟩ := hA
    exact ⟨by rw [r2 35 9 (by decide)]; exact a1, by rw [r2 35 11 (by decide)]; exact a2, by rw [r2 35 12 (by decide)]; exact a3, fun w => by rw [r2 35 13 (by decide)]; exact a4 w, fun w => by rw [r2 35 14 (by decide)]; exact a5 w⟩
  · rw [hln]
    obtain ⟨b1, b2, b3, b4⟩ := hq
    exact ⟨by rw [r2 35 16 (by decide)]; exact b1, fun w => by rw [r2 35 17 (by decide)]; exact b2 w, b3, b4⟩
  · rw [hln]
    exact hp
  · intro _
    rw [hr1, hT]
  · refine ⟨fun _ => ?_, fun w => by omega, fun w => by omega⟩
    obtain ⟨b5, b6, b49⟩ := hB.1 rfl
    rw [hr1]
    rcases hcc with ⟨rfl, rfl, rfl⟩ | ⟨rfl, rfl, rfl⟩
    · refine ⟨tK_ct b5.1 b5.2, ?_, ?_⟩
      · rw [tK_lo (by decide) (by decide)]; exact b6
      · rw [tK_hi b5.1 b5.2 (by decide) (by decide)]; exact b49
    · refine ⟨?_, tK_ct b6.1 b6.2, ?_⟩
      · rw [tK_lo (by decide) (by decide)]; exact b5
      · rw [tK_hi b6.1 b6.2 (by decide) (by decide)]; exact b49
  · rw [r2 35 20 (by decide), hF 35 20 (by omega) (by omega), zup_at, hf1]
  · rw [r2 35 21 (by decide), hF 35 21 (by omega) (by omega), zup_ne (by omega), hf2]
  · exact fun a j w => by rw [r2 a j (by omega), hF a j (by omega) (by omega), zup_ne (by omega)]
theorem lnB_t {ln i : Nat} {v : Nat → Int} {lo hi : Int} (h1 : ln < 13) (h2 : lnL ln i = lo) (h3 : lnH ln i = hi) : lnB ln v i ↔ ¬ (lo ≤ v i ∧ v i ≤ hi) := by
  unfold lnB
  rw [h2, h3]
  exact ⟨fun w => by
    rcases w with w | w | w
    · exact w
    · omega
    · omega, Or.inl⟩
/-- all numbers are there, or the first that is none -/
theorem K3 (u : Nat → Int) (N x m : Nat) : (∀ i, i < m → tkK u N (tkN u N x (i + 1)) = 3) ∨ ∃ i, i < m ∧ tkK u N (tkN u N x (i + 1)) ≠ 3 ∧ ∀ j, j < i → tkK u N (tkN u N x (j + 1)) = 3 := by
  induction m with
  | zero => exact Or.inl (fun i hi => by omega)
  | succ m ih =>
    rcases ih with ih | ⟨i, hi, h1, h2⟩
    · by_cases h : tkK u N (tkN u N x (m + 1)) = 3
      · exact Or.inl (fun i hi => by
          by_cases e : i = m
          · subst e; exact h
          · exact ih i (by omega))
      · exact Or.inr ⟨m, by omega, h, ih⟩
    · exact Or.inr ⟨i, by omega, h1, h2⟩
theorem rS.x {u : Nat → Int} {N x ln off i : Nat} {q0 : Int × Int} {h0 h1 h : yH} (hS : rS u N x ln off q0 h1 i h) (hp : pF h0 h1) : lnX1 (lp u N x i) h0 (zup h 35 15 (lp u N x i)) := ⟨zup_at _ _ _ _, hS.1.2.2.2.up (by omega), (hp.tr hS.2.2.2.2.2.2.2.p).up (by omega)⟩
theorem shoal_e {u : Nat → Int} {N x n : Nat} {q0 : Int × Int} {h0 : yH} (hn : 1400 ≤ n) (hx : x ≤ N) (hS : rS u N x 4 0 q0 h0 0 h0) (hb : -1 ≤ h0 35 20 ∧ h0 35 20 ≤ 99) (hB : rB 0 (h0 8)) :
    ((∀ i, i < lnN 4 → tkK u N (tkN u N x (i + 1)) = 3) → ∃ h2, f_X12_shoalLine n [35] h0 = some (1, h2) ∧ lnD u N x 0 4 q0 h0 h2) ∧
    ∀ i, i < lnN 4 → tkK u N (tkN u N x (i + 1)) ≠ 3 → (∀ j, j < i → tkK u N (tkN u N x (j + 1)) = 3) → ∃ h2, f_X12_shoalLine n [35] h0 = some (0, h2) ∧ lnX1 (lp u N x i) h0 h2 := by
  have l3 : lnN 4 = 3 := by decide
  have p0 : pF h0 (zup h0 35 20 (max (h0 35 20) (lv u N x 0))) := pF.rfl'.up (by omega)
  have t0 : tkK u N (tkN u N x 1) = 3 → _ := fun hK => cell_t (n := n) hn hx hS hK hb (fun _ => lnB_t (by decide) (by decide) (by decide))
  constructor
  · intro hK
    obtain ⟨h1, r1, s1⟩ := t0 (hK 0 (by omega))
    obtain ⟨h2, r2, s2⟩ := take_t (k := 1) (lo := 1) (hi := 99) hn hx s1 (hK 1 (by omega)) rfl (by decide) (fun _ => lnB_t (by decide) (by decide) (by decide))
    obtain ⟨h3, r3, s3⟩ := take_t (k := 2) (lo := 0) (hi := 4) hn hx s2 (hK 2 (by omega)) rfl (by decide) (fun _ => lnB_t (by decide) (by decide) (by decide))
    obtain ⟨h4, r4, s4⟩ := line3 (ct := 5) (from_ := 19) (most := 4) hn s3 l3 rfl (hB.1 rfl).1 (by decide) (by decide) hB (Or.inl ⟨rfl, rfl, rfl⟩) (fun c => rfl) rfl
    exact ⟨h4, by rw [e_X12_shoalLine, r1, xb_some, if_neg (by decide), r2, xb_some, if_neg (by decide), r3, xb_some, if_neg (by decide), show f_X12_keep n [35, 5, 19, 3, 4] h3 = _ from r4, xb_some], s4⟩
  · intro i hi hK hj
    rw [e_X12_shoalLine]
    rcases (show i = 0 ∨ i = 1 ∨ i = 2 by omega) with rfl | rfl | rfl
    · obtain ⟨h1, r1, s1⟩ := cell_f (n := n) hS hK hb
      exact ⟨h1, by rw [r1, xb_some, if_pos rfl], s1⟩
    · obtain ⟨h1, r1, s1⟩ := t0 (hj 0 (by omega))
      exact ⟨_, by rw [r1, xb_some, if_neg (by decide), take_f s1 hK, xb_some, if_pos rfl], s1.x p0⟩
    · obtain ⟨h1, r1, s1⟩ := t0 (hj 0 (by omega))
      obtain ⟨h2, r2, s2⟩ := take_t (k := 1) (lo := 1) (hi := 99) hn hx s1 (hj 1 (by omega)) rfl (by decide) (fun _ => lnB_t (by decide) (by decide) (by decide))
      exact ⟨_, by rw [r1, xb_some, if_neg (by decide), r2, xb_some, if_neg (by decide), take_f s2 hK, xb_some, if_pos rfl], s2.x p0⟩
theorem boat_e {u : Nat → Int} {N x n : Nat} {q0 : Int × Int} {h0 : yH} (hn : 1400 ≤ n) (hx : x ≤ N) (hS : rS u N x 5 0 q0 h0 0 h0) (hb : -1 ≤ h0 35 20 ∧ h0 35 20 ≤ 99) (hB : rB 0 (h0 8)) :
    ((∀ i, i < lnN 5 → tkK u N (tkN u N x (i + 1)) = 3) → ∃ h2, f_X12_boatLine n [35] h0 = some (1, h2) ∧ lnD u N x 0 5 q0 h0 h2) ∧
    ∀ i, i < lnN 5 → tkK u N (tkN u N x (i + 1)) ≠ 3 → (∀ j, j < i → tkK u N (tkN u N x (j + 1)) = 3) → ∃ h2, f_X12_boatLine n [35] h0 = some (0, h2) ∧ lnX1 (lp u N x i) h0 h2 := by
  have l3 : lnN 5 = 3 := by decide
  have p0 : pF h0 (zup h0 35 20 (max (h0 35 20) (lv u N x 0))) := pF.rfl'.up (by omega)
  have t0 : tkK u N (tkN u N x 1) = 3 → _ := fun hK => cell_t (n := n) hn hx hS hK hb (fun _ => lnB_t (by decide) (by decide) (by decide))
  constructor
  · intro hK
    obtain ⟨h1, r1, s1⟩ := t0 (hK 0 (by omega))
    obtain ⟨h2, r2, s2⟩ := take_t (k := 1) (lo := 0) (hi := 20) hn hx s1 (hK 1 (by omega)) rfl (by decide) (fun _ => lnB_t (by decide) (by decide) (by decide))
    obtain ⟨h3, r3, s3⟩ := take_t (k := 2) (lo := 0) (hi := 2) hn hx s2 (hK 2 (by omega)) rfl (by decide) (fun _ => lnB_t (by decide) (by decide) (by decide))
    obtain ⟨h4, r4, s4⟩ := line3 (ct := 6) (from_ := 31) (most := 6) hn s3 l3 rfl (hB.1 rfl).2.1 (by decide) (by decide) hB (Or.inr ⟨rfl, rfl, rfl⟩) (fun c => rfl) rfl
    exact ⟨h4, by rw [e_X12_boatLine, r1, xb_some, if_neg (by decide), r2, xb_some, if_neg (by decide), r3, xb_some, if_neg (by decide), show f_X12_keep n [35, 6, 31, 3, 6] h3 = _ from r4, xb_some], s4⟩
  · intro i hi hK hj
    rw [e_X12_boatLine]
    rcases (show i = 0 ∨ i = 1 ∨ i = 2 by omega) with rfl | rfl | rfl
    · obtain ⟨h1, r1, s1⟩ := cell_f (n := n) hS hK hb
      exact ⟨h1, by rw [r1, xb_some, if_pos rfl], s1⟩
    · obtain ⟨h1, r1, s1⟩ := t0 (hj 0 (by omega))
      exact ⟨_, by rw [r1, xb_some, if_neg (by decide), take_f s1 hK, xb_some, if_pos rfl], s1.x p0⟩
    · obtain ⟨h1, r1, s1⟩ := t0 (hj 0 (by omega))
      obtain ⟨h2, r2, s2⟩ := take_t (k := 1) (lo := 0) (hi := 20) hn hx s1 (hj 1 (by omega)) rfl (by decide) (fun _ => lnB_t (by decide) (by decide) (by decide))
      exact ⟨_, by rw [r1, xb_some, if_neg (by decide), r2, xb_some, if_neg (by decide), take_f s2 hK, xb_some, if_pos rfl], s2.x p0⟩
