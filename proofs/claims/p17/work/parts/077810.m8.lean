section
/-! a day begins: class and reference -/
def cPr (h : yH) : Prop := h 130 2 = 131 ∧ h 130 3 = 138 ∧ h 130 4 = 139 ∧ h 130 5 = 140 ∧ h 130 15 = 141 ∧ h 131 0 = 132 ∧ h 131 1 = 133 ∧ h 131 2 = 134 ∧ h 131 3 = 135 ∧ h 131 4 = 136 ∧ h 131 5 = 137
theorem cPr.fr {h h2 : yH} (hp : cPr h) (e : ∀ a j, (a = 130 ∧ (j = 2 ∨ j = 3 ∨ j = 4 ∨ j = 5 ∨ j = 15)) ∨ (a = 131 ∧ j ≤ 5) → h2 a j = h a j) : cPr h2 := by
  obtain ⟨p1, p2, p3, p4, p5, p6, p7, p8, p9, p10, p11⟩ := hp
  exact ⟨by rw [e _ _ (by omega)]; exact p1, by rw [e _ _ (by omega)]; exact p2, by rw [e _ _ (by omega)]; exact p3, by rw [e _ _ (by omega)]; exact p4, by rw [e _ _ (by omega)]; exact p5, by rw [e _ _ (by omega)]; exact p6, by rw [e _ _ (by omega)]; exact p7, by rw [e _ _ (by omega)]; exact p8, by rw [e _ _ (by omega)]; exact p9, by rw [e _ _ (by omega)]; exact p10, by rw [e _ _ (by omega)]; exact p11⟩
/-- a shoal more -/
def adH (S : Nat) (c f d : Int) (h : yH) : yH := zup (zup (zup (zup (zup (zup (zup (zup h 132 S c) 133 S f) 134 S d) 137 S (-1)) 135 S 0) 136 S (-1)) 131 6 (yari 8 (h 131 6) (yari 5 1 (S : Int)))) 131 7 ((S : Int) + 1)
theorem add_e {n S : Nat} {c f d : Int} {h : yH} (hp : cPr h) (h7 : h 131 7 = (S : Int)) (hS : S < 6) : f_X7_add n [131, c, f, d] h = some (0, adH S c f d h) := by
  obtain ⟨p1, p2, p3, p4, p5, p6, p7, p8, p9, p10, p11⟩ := hp
  rw [e_X7_add, h7, if_pos (by omega), xg_pos p6, xg_pos (by omega), xg_pos p7, xg_pos (by omega), xg_pos p8, xg_pos (by omega), xg_pos p11, xg_pos (by omega), xg_pos p9, xg_pos (by omega), xg_pos p10, xg_pos (by omega), xg_pos (by omega), xg_pos (by omega), Int.toNat_natCast]
  rfl
/-- so many shoals added -/
def adI (t : Nat → Int) (k : Nat) (h : yH) : Prop := h 131 7 = (k : Int) ∧ (0 ≤ h 131 6 ∧ h 131 6 ≤ 63) ∧ (∀ i, i < 6 → (bt (h 131 6) i = true ↔ i < k)) ∧ ∀ i, i < k → h 132 i = t (19 + 3 * i) ∧ h 133 i = t (20 + 3 * i) ∧ h 134 i = t (21 + 3 * i) ∧ h 137 i = -1 ∧ h 135 i = 0 ∧ h 136 i = -1
theorem adH_fr {S : Nat} {c f d : Int} {h : yH} {a j : Nat} (w : ¬ (a = 131 ∧ (j = 6 ∨ j = 7)) ∧ ¬ ((a = 132 ∨ a = 133 ∨ a = 134 ∨ a = 135 ∨ a = 136 ∨ a = 137) ∧ j = S)) : adH S c f d h a j = h a j := by
  unfold adH
  rw [zup_ne (by omega), zup_ne (by omega), zup_ne (by omega), zup_ne (by omega), zup_ne (by omega), zup_ne (by omega), zup_ne (by omega), zup_ne (by omega)]
theorem adH_v {S : Nat} {c f d : Int} {h : yH} : adH S c f d h 131 7 = (S : Int) + 1 ∧ adH S c f d h 131 6 = yari 8 (h 131 6) (yari 5 1 (S : Int)) ∧ adH S c f d h 132 S = c ∧ adH S c f d h 133 S = f ∧ adH S c f d h 134 S = d ∧ adH S c f d h 137 S = -1 ∧ adH S c f d h 135 S = 0 ∧ adH S c f d h 136 S = -1 := by
  unfold adH
  refine ⟨?_, ?_, ?_, ?_, ?_, ?_, ?_, ?_⟩ <;> simp [zup]
theorem bit_add {m : Int} {S : Nat} (hm : 0 ≤ m ∧ m ≤ 63) (hS : S < 6) : (0 ≤ yari 8 m (yari 5 1 (S : Int)) ∧ yari 8 m (yari 5 1 (S : Int)) ≤ 63) ∧ ∀ i, i < 6 → (bt (yari 8 m (yari 5 1 (S : Int))) i = true ↔ bt m i = true ∨ i = S) := by
  obtain ⟨s1, s2, s3, s4⟩ := shF ⟨S, hS⟩
  obtain ⟨o1, o2, o3, o4⟩ := or_b hm s1
  refine ⟨o1, fun i hi => ?_⟩
  have q := s4 ⟨i, hi⟩
  simp only at q
  rw [o2 i hi, Bool.or_eq_true, q, decide_eq_true_iff]
theorem adI_s {t : Nat → Int} {k : Nat} {h : yH} (I : adI t k h) (hk : k < 6) : adI t (k + 1) (adH k (t (19 + 3 * k)) (t (20 + 3 * k)) (t (21 + 3 * k)) h) := by
  obtain ⟨i1, i2, i3, i4⟩ := I
  obtain ⟨v1, v2, v3, v4, v5, v6, v7, v8⟩ := adH_v (S := k) (c := t (19 + 3 * k)) (f := t (20 + 3 * k)) (d := t (21 + 3 * k)) (h := h)
  obtain ⟨b1, b2⟩ := bit_add i2 hk
  refine ⟨by rw [v1]; omega, by rw [v2]; exact b1, fun i hi => ?_, fun i hi => ?_⟩
  · rw [v2, b2 i hi, i3 i hi]
    omega
  · by_cases q : i = k
    · rw [q]
      exact ⟨v3, v4, v5, v6, v7, v8⟩
    · rw [adH_fr (by omega), adH_fr (by omega), adH_fr (by omega), adH_fr (by omega), adH_fr (by omega), adH_fr (by omega)]
      exact i4 i (by omega)
theorem sbeg_l {b : Nat} {t : Nat → Int} (hb : b + 8 ≤ 130) (hW : tW0 t) : ∀ (m k n : Nat) (h : yH), 5 - k = m → (k : Int) ≤ t 5 → m ≤ n → cPr h → cS b t h → cSp b h → adI t k h →
    ∃ h2, xl_X7_begin n 12 [131, (b : Int), (k : Int)] h = some (0, h2) ∧ adI t (t 5).toNat h2 ∧ ∀ a j, ¬ (a = 131 ∧ (j = 6 ∨ j = 7)) → ¬ (132 ≤ a ∧ a ≤ 137) → h2 a j = h a j := by
  have w5 := hW.sl
  intro m
  induction m with
  | zero => intro k n h e1 e2; omega
  | succ m ih =>
    intro k n h e1 e2 e3 hp hS hsp I
    obtain ⟨n, rfl⟩ : ∃ n', n = n' + 1 := ⟨n - 1, by omega⟩
    obtain ⟨a0, a1, a2, a3, a4, a5, a6, a7, a8, a9, a10⟩ := id hS
    rw [e_X7_begin_12, Int.toNat_natCast, a5]
    by_cases c : (k : Int) < t 5
    · obtain ⟨q1, q2, q3⟩ := a9 k c
      have e2' : ((b : Int) + 2).toNat = b + 2 := by omega
      have e3' : ((b : Int) + 3).toNat = b + 3 := by omega
      have e4' : ((b : Int) + 4).toNat = b + 4 := by omega
      rw [if_pos c, xg_pos hsp.2.1, xg_pos (by omega), xg_pos hsp.2.2.1, xg_pos (by omega), xg_pos hsp.2.2.2.1, xg_pos (by omega), e2', e3', e4', Int.toNat_natCast, q1, q2, q3, add_e hp I.1 (by omega), xb_some, xg_pos (by omega), show (k : Int) + 1 = ((k + 1 : Nat) : Int) by omega]
      have fr : ∀ a j, ¬ (a = 131 ∧ (j = 6 ∨ j = 7)) → ¬ (132 ≤ a ∧ a ≤ 137) → adH k (t (19 + 3 * k)) (t (20 + 3 * k)) (t (21 + 3 * k)) h a j = h a j := fun a j w1 w2 => adH_fr (by omega)
      obtain ⟨h2, f1, f2, f3⟩ := ih (k + 1) n _ (by omega) (by omega) (by omega) (hp.fr (fun a j w => fr a j (by omega) (by omega))) (hS.fr (fun a j w1 w2 => fr a j (by omega) (by omega))) (hsp.fr (fun j _ => fr b j (by omega) (by omega))) (adI_s I (by omega))
      exact ⟨h2, f1, f2, fun a j w1 w2 => (f3 a j w1 w2).trans (fr a j w1 w2)⟩
    · refine ⟨h, ?_, ?_, fun _ _ _ _ => rfl⟩
      · rw [if_neg c]
      · rw [show (t 5).toNat = k by omega]
        exact I
/-- so many boats laid -/
theorem rbeg_l {b : Nat} {x2 x3 x4 : Int} {t : Nat → Int} (hb : b + 8 ≤ 130) : ∀ (m k n : Nat) (h : yH), m + k = 6 → m < n → cPr h → cSp b h → (∀ i : Nat, (i : Int) < t 6 → h (b + 5) i = t (31 + 3 * i)) → (∀ i : Nat, i < k → (i : Int) < t 6 → h 138 i = t (31 + 3 * i) ∧ h 139 i = 0 ∧ h 140 i = 0) →
    ∃ h2, xl_X5_begin n 21 [130, (b : Int), x2, x3, x4, (k : Int)] h = some (0, h2) ∧ (h2 130 6 = 0 ∧ h2 130 7 = 0 ∧ h2 130 13 = x3 ∧ h2 130 14 = x4) ∧ (∀ i : Nat, i < 6 → (i : Int) < t 6 → h2 138 i = t (31 + 3 * i) ∧ h2 139 i = 0 ∧ h2 140 i = 0) ∧ ∀ a j, ¬ (a = 130 ∧ (j = 6 ∨ j = 7 ∨ j = 13 ∨ j = 14)) → ¬ (138 ≤ a ∧ a ≤ 140) → h2 a j = h a j := by
  intro m
  induction m with
  | zero =>
    intro k n h e1 e2 hp hsp hc hk
    obtain ⟨n, rfl⟩ : ∃ n', n = n' + 1 := ⟨n - 1, by omega⟩
    refine ⟨zup (zup (zup (zup h 130 6 0) 130 7 0) 130 13 x3) 130 14 x4, ?_, ?_, fun i h1 h2 => ?_, fun a j w1 w2 => ?_⟩
    · rw [e_X5_begin_21, if_neg (by omega)]
    · refine ⟨?_, ?_, ?_, ?_⟩ <;> simp [zup]
    · rw [zup_ne (by omega), zup_ne (by omega), zup_ne (by omega), zup_ne (by omega), zup_ne (by omega), zup_ne (by omega), zup_ne (by omega), zup_ne (by omega), zup_ne (by omega), zup_ne (by omega), zup_ne (by omega), zup_ne (by omega)]
      exact hk i (by omega) h2
    · rw [zup_ne (by omega), zup_ne (by omega), zup_ne (by omega), zup_ne (by omega)]
  | succ m ih =>
    intro k n h e1 e2 hp hsp hc hk
    obtain ⟨n, rfl⟩ : ∃ n', n = n' + 1 := ⟨n - 1, by omega⟩
    obtain ⟨p1, p2, p3, p4, p5, p6, p7, p8, p9, p10, p11⟩ := id hp
    have e5 : ((b : Int) + 5).toNat = b + 5 := by omega
    rw [e_X5_begin_21, if_pos (by omega), xg_pos p2, Int.toNat_natCast, xg_pos hsp.2.2.2.2.1, xg_pos (by omega), xg_pos (by omega), xg_pos p3, xg_pos (by omega), xg_pos p4, xg_pos (by omega), xg_pos (by omega), e5, Int.toNat_natCast, show (k : Int) + 1 = ((k + 1 : Nat) : Int) by omega]
    have fr : ∀ a j, ¬ ((a = 138 ∨ a = 139 ∨ a = 140) ∧ j = k) → (zup (zup (zup h 138 k (h (b + 5) k)) 139 k 0) 140 k 0) a j = h a j := fun a j w => by
      rw [zup_ne (by omega), zup_ne (by omega), zup_ne (by omega)]
    have vk : (zup (zup (zup h 138 k (h (b + 5) k)) 139 k 0) 140 k 0) 138 k = h (b + 5) k ∧ (zup (zup (zup h 138 k (h (b + 5) k)) 139 k 0) 140 k 0) 139 k = 0 ∧ (zup (zup (zup h 138 k (h (b + 5) k)) 139 k 0) 140 k 0) 140 k = 0 := by
      refine ⟨?_, ?_, ?_⟩ <;> simp [zup]
    generalize zup (zup (zup h 138 k (h (b + 5) k)) 139 k 0) 140 k 0 = g1 at fr vk
    obtain ⟨h2, f1, f2, f3, f4⟩ := ih (k + 1) n g1 (by omega) (by omega) (hp.fr (fun a j w => fr a j (by omega))) (hsp.fr (fun j _ => fr b j (by omega))) (fun i hi => by rw [fr _ _ (by omega)]; exact hc i hi) (fun i h1 h2 => by
      by_cases q : i = k
      · rw [q, vk.1, vk.2.1, vk.2.2]
        rw [q] at h2
        exact ⟨hc k h2, rfl, rfl⟩
      · rw [fr _ _ (by omega), fr _ _ (by omega), fr _ _ (by omega)]
        exact hk i (by omega) h2)
    exact ⟨h2, f1, f2, f3, fun a j w1 w2 => (f4 a j w1 w2).trans (fr a j (by omega))⟩
/-- what begin() of the class leaves -/
def rbR (b e : Nat) (seed gl : Int) (t : Nat → Int) (h h2 : yH) : Prop := cPr h2 ∧ h2 130 0 = (b : Int) ∧ h2 130 1 = (e : Int) ∧ (h2 130 6 = 0 ∧ h2 130 7 = 0 ∧ h2 130 13 = seed ∧ h2 130 14 = gl) ∧ adI t (t 5).toNat h2 ∧ (∀ i : Nat, i < 6 → (i : Int) < t 6 → h2 138 i = t (31 + 3 * i) ∧ h2 139 i = 0 ∧ h2 140 i = 0) ∧ ∀ a j, ¬ (a = 130 ∧ (j = 0 ∨ j = 1 ∨ j = 6 ∨ j = 7 ∨ j = 13 ∨ j = 14)) → ¬ (a = 131 ∧ (j = 6 ∨ j = 7)) → ¬ (132 ≤ a ∧ a ≤ 140) → h2 a j = h a j
theorem rbegin_e {n b e : Nat} {seed gl : Int} {t : Nat → Int} {h : yH} (hn : 20 ≤ n) (hb : b + 8 ≤ 130) (he : e ≤ 1000) (hW : tW0 t) (hp : cPr h) (hS : cS b t h) (hsp : cSp b h) : ∃ h2, f_X5_begin n [130, (b : Int), (e : Int), seed, gl] h = some (0, h2) ∧ rbR b e seed gl t h h2 := by
  have fr0 : ∀ a j, ¬ (a = 130 ∧ (j = 0 ∨ j = 1)) → (zup (zup h 130 0 (b : Int)) 130 1 (e : Int)) a j = h a j := fun a j w => by
    rw [zup_ne (by omega), zup_ne (by omega)]
  have v0 : (zup (zup h 130 0 (b : Int)) 130 1 (e : Int)) 130 0 = (b : Int) := by rw [zup_ne (by omega), zup_at]
  have v1 : (zup (zup h 130 0 (b : Int)) 130 1 (e : Int)) 130 1 = (e : Int) := zup_at _ _ _ _
  have key : f_X5_begin n [130, (b : Int), (e : Int), seed, gl] h = xb (f_X7_begin n [131, (b : Int)] (zup (zup h 130 0 (b : Int)) 130 1 (e : Int))) (fun _ h1 => xl_X5_begin n 21 [130, (b : Int), (e : Int), seed, gl, 0] h1) := by
    rw [e_X5_begin, xg_pos (by omega), xg_pos (by omega), xg_pos hp.1]
  rw [key]
  generalize zup (zup h 130 0 (b : Int)) 130 1 (e : Int) = hA at fr0 v0 v1
  have frB : ∀ a j, ¬ (a = 131 ∧ (j = 6 ∨ j = 7)) → (zup (zup hA 131 7 0) 131 6 0) a j = hA a j := fun a j w => by
    rw [zup_ne (by omega), zup_ne (by omega)]
  have I0 : adI t 0 (zup (zup hA 131 7 0) 131 6 0) := by
    have e6 : (zup (zup hA 131 7 0) 131 6 0) 131 6 = 0 := zup_at _ _ _ _
    refine ⟨by rw [zup_ne (by omega), zup_at]; rfl, by rw [e6]; decide, fun i hi => ?_, fun i hi => absurd hi (by omega)⟩
    rw [e6]
    have z : ∀ c : Fin 6, bt 0 c.val = false := by decide +kernel
    have := z ⟨i, hi⟩
    simp only at this
    rw [this]
    constructor
    · intro w; cases w
    · intro w; omega
  have pA : cPr hA := hp.fr (fun a j w => fr0 a j (by omega))
  have sA : cS b t hA := hS.fr (fun a j w1 w2 => fr0 a j (by omega))
  have spA : cSp b hA := hsp.fr (fun j _ => fr0 b j (by omega))
  obtain ⟨h2, f1, f2, f3⟩ := sbeg_l hb hW 5 0 n _ rfl hW.sl.1 (by omega) (pA.fr (fun a j w => frB a j (by omega))) (sA.fr (fun a j w1 w2 => frB a j (by omega))) (spA.fr (fun j _ => frB b j (by omega))) I0
  have f1' : f_X7_begin n [131, (b : Int)] hA = some (0, h2) := by
    rw [e_X7_begin]
    exact f1
  have fr2 : ∀ a j, ¬ (a = 131 ∧ (j = 6 ∨ j = 7)) → ¬ (132 ≤ a ∧ a ≤ 137) → h2 a j = hA a j := fun a j w1 w2 => (f3 a j w1 w2).trans (frB a j w1)
  have s2 : cS b t h2 := sA.fr (fun a j w1 w2 => fr2 a j (by omega) (by omega))
  obtain ⟨h3, k1, k2, k3, k4⟩ := rbeg_l (x2 := (e : Int)) (x3 := seed) (x4 := gl) (t := t) hb 6 0 n h2 rfl (by omega) (pA.fr (fun a j w => fr2 a j (by omega) (by omega))) (spA.fr (fun j _ => fr2 b j (by omega) (by omega))) (fun i hi => (s2.2.2.2.2.2.2.2.2.2.2 i hi).1) (fun i hi => absurd hi (by omega))
  have fr3 : ∀ a j, ¬ (a = 130 ∧ (j = 6 ∨ j = 7 ∨ j = 13 ∨ j = 14)) → ¬ (a = 131 ∧ (j = 6 ∨ j = 7)) → ¬ (132 ≤ a ∧ a ≤ 140) → h3 a j = hA a j := fun a j w1 w2 w3 => (k4 a j w1 (by omega)).trans (fr2 a j w2 (by omega))
  refine ⟨h3, ?_, pA.fr (fun a j w => fr3 a j (by omega) (by omega) (by omega)), by rw [fr3 _ _ (by omega) (by omega) (by omega)]; exact v0, by rw [fr3 _ _ (by omega) (by omega) (by omega)]; exact v1, k2, ?_, k3, fun a j w1 w2 w3 => ?_⟩
  · rw [f1', xb_some]
    exact k1
  · obtain ⟨i1, i2, i3, i4⟩ := f2
    have z : ∀ a j, 131 ≤ a → a ≤ 137 → h3 a j = h2 a j := fun a j w1 w2 => k4 a j (by omega) (by omega)
    refine ⟨by rw [z _ _ (by omega) (by omega)]; exact i1, by rw [z _ _ (by omega) (by omega)]; exact i2, fun i hi => by rw [z _ _ (by omega) (by omega)]; exact i3 i hi, fun i hi => ?_⟩
    rw [z _ _ (by omega) (by omega), z _ _ (by omega) (by omega), z _ _ (by omega) (by omega), z _ _ (by omega) (by omega), z _ _ (by omega) (by omega), z _ _ (by omega) (by omega)]
    exact i4 i hi
  · rw [fr3 a j (by omega) w2 w3, fr0 a j (by omega)]
end
section
/-! the days: boats' cells laid into a sea -/
def bU (t p : Nat → Int) : Nat → Int := fun j => if 31 ≤ j ∧ j < 49 ∧ (j - 31) % 3 = 0 then p ((j - 31) / 3) else t j
theorem bU_p {t p : Nat → Int} {i : Nat} (hi : i < 6) : bU t p (31 + 3 * i) = p i := by
  unfold bU
  rw [if_pos (by omega), show (31 + 3 * i - 31) / 3 = i by omega]
theorem bU_n {t p : Nat → Int} {j : Nat} (h : ¬ (31 ≤ j ∧ j < 49 ∧ (j - 31) % 3 = 0)) : bU t p j = t j := if_neg h
theorem bU_W {t p : Nat → Int} (hW : tW0 t) (hp : ∀ i, i < 6 → 0 ≤ p i ∧ p i ≤ 63) : tW0 (bU t p) := by
  obtain ⟨h0, h1, h2, h3, h4, h5, h6, h7, h8, h9, h10⟩ := hW
  have ne : ∀ j, j < 31 ∨ j = 49 → bU t p j = t j := fun j hj => bU_n (by omega)
  refine ⟨?_, ?_, ?_, ?_, ?_, ?_, ?_, ?_, fun c hc => ?_, fun s hs => ?_, fun b hb => ?_⟩
  · rw [ne _ (by omega)]; exact h0
  · rw [ne _ (by omega)]; exact h1
  · rw [ne _ (by omega)]; exact h2
  · rw [ne _ (by omega)]; exact h3
  · rw [ne _ (by omega)]; exact h4
  · rw [ne _ (by omega)]; exact h5
  · rw [ne _ (by omega)]; exact h6
  · rw [ne _ (by omega)]; exact h7
  · rw [ne _ (by omega), ne _ (by omega), ne _ (by omega), ne _ (by omega)]; exact h8 c hc
  · rw [ne _ (by omega), ne _ (by omega), ne _ (by omega), ne _ (by omega)]; exact h9 s hs
  · obtain ⟨k1, k2, k3⟩ := h10 b hb
    rw [bU_p hb, bU_n (j := 32 + 3 * b) (by omega), bU_n (j := 33 + 3 * b) (by omega)]
    exact ⟨hp b hb, k2, k3⟩
theorem bU_up {t p : Nat → Int} {b : Nat} {x : Int} (hb : b < 6) : bU t (tU p b x) = tU (bU t p) (31 + 3 * b) x := by
  funext j
  by_cases q : j = 31 + 3 * b
  · rw [q, bU_p hb, tU_at, tU_at]
  · rw [tU_ne q]
    unfold bU
    by_cases w : 31 ≤ j ∧ j < 49 ∧ (j - 31) % 3 = 0
    · rw [if_pos w, if_pos w, tU_ne (by omega)]
    · rw [if_neg w, if_neg w]
theorem hearersR_l {b a : Nat} {fr vo : Int} {t p : Nat → Int} {h : yH} (hS : cS b t h) (hW : tW0 (bU t p)) (hp : ∀ i : Nat, (i : Int) < t 6 → h 138 i = p i) (hfr : 0 ≤ fr ∧ fr ≤ 63) : ∀ (m k n : Nat), 7 - k = m → (k : Int) ≤ t 6 → m ≤ n → xl_X6_hearers_r n 6 [(b : Int), (a : Int), fr, vo, 138, hst (bU t p) fr vo a k, (k : Int)] h = some (hst (bU t p) fr vo a (t 6).toNat, h) := by
  have z0 : bU t p 0 = t 0 := bU_n (by omega)
  have z2 : bU t p 2 = t 2 := bU_n (by omega)
  have z3 : bU t p 3 = t 3 := bU_n (by omega)
  have z6 : bU t p 6 = t 6 := bU_n (by omega)
  have z49 : bU t p 49 = t 49 := bU_n (by omega)
  obtain ⟨w0, w1, w2, w3, w6⟩ := hW.wd
  rw [z0] at w0
  rw [z3] at w3
  rw [z6] at w6
  obtain ⟨a0, a1, a2, a3, a4, a5, a6, a7, a8, a9, a10⟩ := id hS
  intro m
  induction m with
  | zero => intro k n e1 e2; omega
  | succ m ih =>
    intro k n e1 e2 e3
    obtain ⟨n, rfl⟩ : ∃ n', n = n' + 1 := ⟨n - 1, by omega⟩
    rw [e_X6_hearers_r_6, Int.toNat_natCast, a6, a7]
    by_cases c : (k : Int) < t 6
    · have nx := ih (k + 1) n (by omega) (by omega) (by omega)
      have wb : 0 ≤ p k ∧ p k ≤ 63 := by
        have := (hW.bt (b := k) (by omega)).1
        rw [bU_p (show k < 6 by omega)] at this
        exact this
      have zk : bU t p (31 + 3 * k) = p k := bU_p (by omega)
      rw [if_pos c]
      by_cases c1 : (k : Int) = (a : Int)
      · rw [if_pos c1, e_X6_hearers_r_38, if_pos rfl, xg_pos (by omega), show (k : Int) + 1 = ((k + 1 : Nat) : Int) by omega]
        rw [hst_f (hq_f (fun q => q.1 (by omega)))] at nx
        exact nx
      · rw [if_neg c1]
        by_cases c2 : yari 7 (yari 6 (t 49) (k : Int)) 1 = 0
        · rw [if_pos c2, e_X6_hearers_r_38, if_neg (by decide), xg_pos (by omega), show (138 : Int).toNat = 138 from rfl, Int.toNat_natCast, hp k c, cost_e a0 a2 a3 w0 w3 hfr wb, xb_some]
          by_cases c3 : vo < cst (t 0) (t 2) (t 3) fr (p k)
          · rw [if_pos c3, xg_pos (by omega), show (k : Int) + 1 = ((k + 1 : Nat) : Int) by omega]
            rw [hst_f (hq_f (fun q => by
              have q2 := q.2.2
              rw [z0, z2, z3, zk] at q2
              omega))] at nx
            exact nx
          · rw [if_neg c3, xg_pos (by omega), show (k : Int) + 1 = ((k + 1 : Nat) : Int) by omega]
            rw [hst_t (hq_t (fun q => c1 (by omega)) (by rw [z49]; exact c2) (by rw [z0, z2, z3, zk]; omega))] at nx
            exact nx
        · rw [if_neg c2, e_X6_hearers_r_38, if_pos rfl, xg_pos (by omega), show (k : Int) + 1 = ((k + 1 : Nat) : Int) by omega]
          rw [hst_f (hq_f (fun q => by
            have q2 := q.2.1
            rw [z49] at q2
            exact c2 q2))] at nx
          exact nx
    · rw [if_neg c, show (t 6).toNat = k by omega]
theorem hrs_bU {t p : Nat → Int} {a : Nat} (ha : a < 6) : hrs (bU t p) a = hst (bU t p) (p a) (t (32 + 3 * a)) a (t 6).toNat := by
  unfold hrs
  rw [bU_p ha, bU_n (j := 32 + 3 * a) (by omega), bU_n (j := 6) (by omega)]
/-- what is told on the class's side, and the run's pointers -/
def dC (b e : Nat) (t d : Nat → Int) (h : yH) : Prop := (b ≤ 30 ∧ e ≤ 50) ∧ cPr h ∧ h 130 0 = (b : Int) ∧ h 130 1 = (e : Int) ∧ cS b t h ∧ cSp b h ∧ cD e d h ∧ h e 1 = (e : Int) + 1 ∧ h e 2 = (e : Int) + 2
theorem dC.fr {b e : Nat} {t d : Nat → Int} {h h2 : yH} (H : dC b e t d h) (f : ∀ a j, a < 130 ∨ (a = 130 ∧ (j ≤ 5 ∨ j = 15)) ∨ (a = 131 ∧ j ≤ 5) → h2 a j = h a j) : dC b e t d h2 := by
  obtain ⟨⟨q1, q2⟩, k1, k2, k3, k4, k5, k6, k7, k8⟩ := H
  exact ⟨⟨q1, q2⟩, k1.fr (fun a j w => f a j (by omega)), by rw [f _ _ (by omega)]; exact k2, by rw [f _ _ (by omega)]; exact k3, k4.fr (fun a j w1 w2 => f a j (by omega)), k5.fr (fun j _ => f b j (by omega)), k6.fr (fun a j w1 w2 => f a j (by omega)), by rw [f _ _ (by omega)]; exact k7, by rw [f _ _ (by omega)]; exact k8⟩
theorem hearersR_e {b e n a : Nat} {t d p : Nat → Int} {h : yH} (hn : 7 ≤ n) (H : dC b e t d h) (hW : tW0 (bU t p)) (hp : ∀ i : Nat, (i : Int) < t 6 → h 138 i = p i) (ha : (a : Int) < t 6) (ha6 : a < 6) : f_X6_hearers_r n [(b : Int), (a : Int), p a, t (32 + 3 * a), 138] h = some (hrs (bU t p) a, h) := by
  have w := (hW.bt ha6).1
  rw [bU_p ha6] at w
  rw [e_X6_hearers_r, hrs_bU ha6]
  exact hearersR_l H.2.2.2.2.1 hW hp w 7 0 n rfl (by have := hW.wd.2.2.2.2; rw [bU_n (j := 6) (by omega)] at this; omega) hn
theorem hearersNow_e {b e n a : Nat} {t d p : Nat → Int} {h : yH} (hn : 7 ≤ n) (H : dC b e t d h) (hW : tW0 (bU t p)) (hp : ∀ i : Nat, (i : Int) < t 6 → h 138 i = p i) (ha : (a : Int) < t 6) (ha6 : a < 6) : f_X5_hearersNow n [130, (a : Int)] h = some (hrs (bU t p) a, h) := by
  obtain ⟨-, k1, k2, k3, k4, k5, -⟩ := id H
  have e6 : ((b : Int) + 6).toNat = b + 6 := by omega
  rw [e_X5_hearersNow, k2, Int.toNat_natCast, xg_pos (by omega), xg_pos k1.2.1, xg_pos (by omega), xg_pos (by omega), xg_pos k5.2.2.2.2.2.1, xg_pos (by omega), xg_pos k1.2.1, Int.toNat_natCast, e6, hp a ha, (k4.2.2.2.2.2.2.2.2.2.2 a ha).2.1, hearersR_e hn H hW hp ha ha6, xb_some]
/-! what a claim lacks -/
def hdN (till hol hr : Int) : Int := if till < hr then -1 else hol
def lkB (a b c : Bool) : Int := (if a = true then 1 else 0) + (if b = true then 2 else 0) + (if c = true then 4 else 0)
theorem holderAt_e {n i : Nat} {hr : Int} {h : yH} (hp : cPr h) (hi : i < 6) : f_X7_holderAt n [131, (i : Int), hr] h = some (hdN (h 136 i) (h 137 i) hr, h) := by
  obtain ⟨p1, p2, p3, p4, p5, p6, p7, p8, p9, p10, p11⟩ := hp
  rw [e_X7_holderAt, xg_pos p10, xg_pos (by omega), Int.toNat_natCast]
  unfold hdN
  by_cases c : h 136 i < hr
  · rw [if_pos c, if_pos c]
  · rw [if_neg c, if_neg c, xg_pos p11, xg_pos (by omega)]
def lkC (t : Nat → Int) (a : Nat) (hol w ac ic : Int) : Int := lkB (decide (hol ≠ -1 ∧ hol ≠ (a : Int))) (decide (bcn w < lawV t a 1)) (decide (lawV t a 2 < cst (t 0) (t 2) (t 3) ac ic))
theorem lkB_b : ∀ a b c : Bool, 0 ≤ lkB a b c ∧ lkB a b c ≤ 7 := by decide
theorem lkC_0 {t : Nat → Int} {a : Nat} {hol w ac ic : Int} : 0 ≤ lkC t a hol w ac ic ∧ lkC t a hol w ac ic ≤ 7 := lkB_b _ _ _
theorem so_e {v w : Int} {h : yH} (e : v = w) : some (v, h) = some (w, h) := by rw [e]
theorem lackC_e {n b e a i : Nat} {w : Int} {t d : Nat → Int} {h : yH} (H : dC b e t d h) (hW : tW0 t) (ha : (a : Int) < t 6) (hi : i < 6) (hw : 0 ≤ w ∧ w ≤ 63) (hpa : 0 ≤ h 138 a ∧ h 138 a ≤ 63) (hci : 0 ≤ h 132 i ∧ h 132 i ≤ 63) : f_X5_lacking n [130, (a : Int), (i : Int), w] h = some (lkC t a (hdN (h 136 i) (h 137 i) (h 130 6)) w (h 138 a) (h 132 i), h) := by
  obtain ⟨-, k1, k2, k3, k4, k5, -⟩ := id H
  have d0 := hW.wd
  have l1 := lawC_e (n := n) (w := 1) k4 k5 hW ha (by decide)
  have l2 := lawC_e (n := n) (w := 2) k4 k5 hW ha (by decide)
  rw [show ((1 : Nat) : Int) = 1 from rfl] at l1
  rw [show ((2 : Nat) : Int) = 2 from rfl] at l2
  have key : ∀ x4 x5 : Int, xq_X5_lacking_57 n [130, (a : Int), (i : Int), w, x4, x5] h = some (if lawV t a 2 < cst (t 0) (t 2) (t 3) (h 138 a) (h 132 i) then yari 8 x4 4 else x4, h) := by
    intro x4 x5
    rw [e_X5_lacking_57, k2, xg_pos (by omega), xg_pos k1.2.1, xg_pos (by omega), xg_pos k1.1, xg_pos k1.2.2.2.2.2.1, xg_pos (by omega), Int.toNat_natCast, Int.toNat_natCast, cost_e k4.1 k4.2.2.1 k4.2.2.2.1 d0.1 d0.2.2.2.1 hpa hci, xb_some, k2, xg_pos (by omega), l2, xb_some]
    by_cases c : lawV t a 2 < cst (t 0) (t 2) (t 3) (h 138 a) (h 132 i)
    · rw [if_pos c, if_pos c]
    · rw [if_neg c, if_neg c]
  rw [e_X5_lacking, xg_pos k1.1, holderAt_e k1 hi, xb_some]
  unfold lkC lkB
  generalize hdN (h 136 i) (h 137 i) (h 130 6) = hol
  by_cases c1 : hol = -1
  · rw [if_pos c1, bc_e hw, xb_some, k2, xg_pos (by omega), l1, xb_some, decide_eq_false (show ¬ (hol ≠ -1 ∧ hol ≠ (a : Int)) from fun q => q.1 c1), key, key]
    by_cases c2 : bcn w < lawV t a 1
    · rw [if_pos c2, decide_eq_true c2]
      by_cases c3 : lawV t a 2 < cst (t 0) (t 2) (t 3) (h 138 a) (h 132 i)
      · rw [if_pos c3, decide_eq_true c3]; exact so_e (by decide +kernel)
      · rw [if_neg c3, decide_eq_false c3]; exact so_e (by decide +kernel)
    · rw [if_neg c2, decide_eq_false c2]
      by_cases c3 : lawV t a 2 < cst (t 0) (t 2) (t 3) (h 138 a) (h 132 i)
      · rw [if_pos c3, decide_eq_true c3]; exact so_e (by decide +kernel)
      · rw [if_neg c3, decide_eq_false c3]; exact so_e (by decide +kernel)
  · rw [if_neg c1]
    by_cases c4 : hol = (a : Int)
    · rw [if_pos c4, bc_e hw, xb_some, k2, xg_pos (by omega), l1, xb_some, decide_eq_false (show ¬ (hol ≠ -1 ∧ hol ≠ (a : Int)) from fun q => q.2 c4), key, key]
      by_cases c2 : bcn w < lawV t a 1
      · rw [if_pos c2, decide_eq_true c2]
        by_cases c3 : lawV t a 2 < cst (t 0) (t 2) (t 3) (h 138 a) (h 132 i)
        · rw [if_pos c3, decide_eq_true c3]; exact so_e (by decide +kernel)
        · rw [if_neg c3, decide_eq_false c3]; exact so_e (by decide +kernel)
      · rw [if_neg c2, decide_eq_false c2]
        by_cases c3 : lawV t a 2 < cst (t 0) (t 2) (t 3) (h 138 a) (h 132 i)
        · rw [if_pos c3, decide_eq_true c3]; exact so_e (by decide +kernel)
        · rw [if_neg c3, decide_eq_false c3]; exact so_e (by decide +kernel)
    · rw [if_neg c4, bc_e hw, xb_some, k2, xg_pos (by omega), l1, xb_some, decide_eq_true (show hol ≠ -1 ∧ hol ≠ (a : Int) from ⟨c1, c4⟩), key, key]
      by_cases c2 : bcn w < lawV t a 1
      · rw [if_pos c2, decide_eq_true c2]
        by_cases c3 : lawV t a 2 < cst (t 0) (t 2) (t 3) (h 138 a) (h 132 i)
        · rw [if_pos c3, decide_eq_true c3]; exact so_e (by decide +kernel)
        · rw [if_neg c3, decide_eq_false c3]; exact so_e (by decide +kernel)
      · rw [if_neg c2, decide_eq_false c2]
        by_cases c3 : lawV t a 2 < cst (t 0) (t 2) (t 3) (h 138 a) (h 132 i)
        · rw [if_pos c3, decide_eq_true c3]; exact so_e (by decide +kernel)
        · rw [if_neg c3, decide_eq_false c3]; exact so_e (by decide +kernel)
/-! the gulls -/
def gdS (sd : Int) : Int := yari 0 (yari 2 sd 1103515245) 12345
def gdV (sd : Int) : Int := yari 4 (yushr (gdS sd) 16) 10
theorem ushr_b {x : Int} : 0 ≤ yushr x 16 ∧ yushr x 16 ≤ 65535 := by
  unfold yushr
  generalize Int32.ofInt x = a
  have e : (a.toUInt32 >>> ((Int32.ofInt 16).toUInt32 &&& Int32.toUInt32 31)).toNat = a.toUInt32.toNat / 65536 := by
    rw [show ((Int32.ofInt 16).toUInt32 &&& Int32.toUInt32 31) = (16 : UInt32) from by decide, UInt32.toNat_shiftRight, Nat.shiftRight_eq_div_pow]
    rfl
  have b := a.toUInt32.toNat_lt
  generalize a.toUInt32 >>> ((Int32.ofInt 16).toUInt32 &&& Int32.toUInt32 31) = y at e
  have hy : y.toNat ≤ 65535 := by omega
  have e2 : y.toInt32.toInt = (y.toNat : Int) := by
    rw [← Int32.toInt_toBitVec]
    show y.toBitVec.toInt = _
    rw [BitVec.toInt_eq_toNat_of_lt (by show 2 * y.toNat < _; omega)]
    rfl
  rw [e2]
  omega
theorem rem10_b {y : Int} (hy : 0 ≤ y ∧ y ≤ 65535) : 0 ≤ yari 4 y 10 := by
  unfold yari
  show 0 ≤ (Int32.ofInt y % Int32.ofInt 10).toInt
  rw [Int32.toInt_mod, Int32.toInt_ofInt_of_le (by omega) (by omega)]
  exact Int.tmod_nonneg _ hy.1
theorem gdV_0 (sd : Int) : 0 ≤ gdV sd := rem10_b ushr_b
theorem drawBelow_e {n : Nat} {h : yH} : f_X5_drawBelow n [130, 10] h = some (gdV (h 130 13), zup h 130 13 (gdS (h 130 13))) := by
  rw [e_X5_drawBelow, xh_e, if_neg (by decide), xg_pos (by decide), zup_at]
  rfl
theorem draw_e {n : Nat} {g : yH} : f_X12_draw n [35, 10] g = some (gdV (g 35 51), zup g 35 51 (gdS (g 35 51))) := by
  rw [e_X12_draw, xh_e, xg_pos (by decide), zup_at]
  rfl
/-- one hears no longer -/
def clr (x : Int) (k : Nat) : Int := yari 7 x (yari 9 (yari 5 1 (k : Int)) (-1))
theorem clrF : ∀ x : Fin 64, ∀ k : Fin 6, (0 ≤ clr (x.val : Int) k.val ∧ clr (x.val : Int) k.val ≤ 63) ∧ ∀ j : Fin 6, bt (clr (x.val : Int) k.val) j.val = (bt (x.val : Int) j.val && decide (j.val ≠ k.val)) := by decide +kernel
theorem clr_b {x : Int} {k : Nat} (hx : 0 ≤ x ∧ x ≤ 63) (hk : k < 6) : (0 ≤ clr x k ∧ clr x k ≤ 63) ∧ ∀ j, j < 6 → bt (clr x k) j = (bt x j && decide (j ≠ k)) := by
  obtain ⟨f1, f2⟩ := clrF ⟨x.toNat, by omega⟩ ⟨k, hk⟩
  simp only at f1 f2
  rw [show ((x.toNat : Nat) : Int) = x by omega] at f1 f2
  exact ⟨f1, fun j hj => f2 ⟨j, hj⟩⟩
def gdA (K H : Int) : Nat → Nat → Int → Int → Int × Int
  | 0, _, x, sd => (x, sd)
  | m + 1, k, x, sd => if bt H k = true then (if gdV sd < K then gdA K H m (k + 1) (clr x k) (gdS sd) else gdA K H m (k + 1) x (gdS sd)) else gdA K H m (k + 1) x sd
theorem gdA_b {K H : Int} : ∀ (m k : Nat) (x sd : Int), m + k = 6 → 0 ≤ x ∧ x ≤ 63 → 0 ≤ (gdA K H m k x sd).1 ∧ (gdA K H m k x sd).1 ≤ 63 := by
  intro m
  induction m with
  | zero => intro k x sd e hx; exact hx
  | succ m ih =>
    intro k x sd e hx
    simp only [gdA]
    split
    · split
      · exact ih _ _ _ (by omega) (clr_b hx (by omega)).1
      · exact ih _ _ _ (by omega) hx
    · exact ih _ _ _ (by omega) hx
theorem gdA_z {K H : Int} : ∀ (m k : Nat) (x sd : Int), (∀ j, k ≤ j → j < k + m → bt H j = false) → gdA K H m k x sd = (x, sd) := by
  intro m
  induction m with
  | zero => intro k x sd e; rfl
  | succ m ih =>
    intro k x sd e
    simp only [gdA]
    rw [e k (Nat.le_refl _) (by omega), if_neg (by decide)]
    exact ih _ _ _ (fun j h1 h2 => e j (by omega) (by omega))
theorem gdA_n {K H : Int} (hK : K < 1) : ∀ (m k : Nat) (x sd : Int), (gdA K H m k x sd).1 = x := by
  intro m
  induction m with
  | zero => intro k x sd; rfl
  | succ m ih =>
    intro k x sd
    have := gdV_0 sd
    simp only [gdA]
    split
    · rw [if_neg (by omega)]
      exact ih _ _ _
    · exact ih _ _ _
theorem gullC_l {K H : Int} (hH : 0 ≤ H ∧ H ≤ 63) : ∀ (m k n : Nat) (x : Int) (h : yH), m + k = 6 → m < n → h 130 8 = H → h 130 14 = K → xl_X5_heardDespiteGulls n 20 [130, x, (k : Int)] h = some ((gdA K H m k x (h 130 13)).1, zup h 130 13 (gdA K H m k x (h 130 13)).2) := by
  intro m
  induction m with
  | zero =>
    intro k n x h e1 e2 e3 e4
    obtain ⟨n, rfl⟩ : ∃ n', n = n' + 1 := ⟨n - 1, by omega⟩
    rw [e_X5_heardDespiteGulls_20, if_neg (by omega)]
    simp only [gdA]
    rw [zup_self]
  | succ m ih =>
    intro k n x h e1 e2 e3 e4
    obtain ⟨n, rfl⟩ : ∃ n', n = n' + 1 := ⟨n - 1, by omega⟩
    have q := (bit_b hH).2 k (by omega)
    rw [e_X5_heardDespiteGulls_20, if_pos (by omega), e3]
    simp only [gdA]
    by_cases c : bt H k = true
    · rw [if_pos (q.mpr c), if_pos c, drawBelow_e, xb_some, zup_ne (show ¬ (130 = 130 ∧ 14 = 13) by omega), e4]
      have nx := fun y => ih (k + 1) n y (zup h 130 13 (gdS (h 130 13))) (by omega) (by omega) (by rw [zup_ne (by omega)]; exact e3) (by rw [zup_ne (by omega)]; exact e4)
      simp only [zup_at, zup_up] at nx
      by_cases c2 : gdV (h 130 13) < K
      · rw [if_pos c2, if_pos c2, xg_pos (by omega), show (k : Int) + 1 = ((k + 1 : Nat) : Int) by omega]
        exact nx _
      · rw [if_neg c2, if_neg c2, xg_pos (by omega), show (k : Int) + 1 = ((k + 1 : Nat) : Int) by omega]
        exact nx _
    · rw [if_neg (fun w => c (q.mp w)), if_neg c, xg_pos (by omega), show (k : Int) + 1 = ((k + 1 : Nat) : Int) by omega]
      exact ih (k + 1) n x h (by omega) (by omega) e3 e4
theorem gullR_l {K H : Int} {b B : Nat} (hH : 0 ≤ H ∧ H ≤ 63) (hB : B ≤ 6) (hz : ∀ j, B ≤ j → j < 6 → bt H j = false) (hK : K ≠ -1) : ∀ (m k n : Nat) (x : Int) (g : yH), m + k = 6 → k ≤ B → m < n → (0 ≤ x ∧ x ≤ 63) → (∀ j, k ≤ j → j < 6 → bt x j = bt H j) → g 35 28 = (B : Int) → g 35 50 = K → xl_X12_heardNow n 8 [35, (b : Int), x, (k : Int)] g = some ((gdA K H m k x (g 35 51)).1, zup g 35 51 (gdA K H m k x (g 35 51)).2) := by
  intro m
  induction m with
  | zero =>
    intro k n x g e1 e2 e3 hx hj e4 e5
    obtain ⟨n, rfl⟩ : ∃ n', n = n' + 1 := ⟨n - 1, by omega⟩
    rw [e_X12_heardNow_8, e4, if_neg (by omega)]
    simp only [gdA]
    rw [zup_self]
  | succ m ih =>
    intro k n x g e1 e2 e3 hx hj e4 e5
    obtain ⟨n, rfl⟩ : ∃ n', n = n' + 1 := ⟨n - 1, by omega⟩
    by_cases cB : k < B
    · have hk := hj k (Nat.le_refl _) (by omega)
      rw [e_X12_heardNow_8, e4, if_pos (by omega), e5, if_neg hK, isIn_e hx (by omega), xb_some]
      simp only [gdA]
      have ebt : bt x k = decide (x / 2 ^ k % 2 = 1) := rfl
      by_cases c : bt H k = true
      · have c' : x / 2 ^ k % 2 = 1 := by
          rw [c, ebt] at hk
          exact of_decide_eq_true hk
        rw [if_neg (by omega), if_pos c, draw_e, xb_some, zup_ne (show ¬ (35 = 35 ∧ 50 = 51) by omega), e5]
        have nx := fun y y1 y2 => ih (k + 1) n y (zup g 35 51 (gdS (g 35 51))) (by omega) (by omega) (by omega) y1 y2 (by rw [zup_ne (by omega)]; exact e4) (by rw [zup_ne (by omega)]; exact e5)
        simp only [zup_at, zup_up] at nx
        by_cases c2 : gdV (g 35 51) < K
        · rw [if_pos c2, if_pos c2, xg_pos (by omega), show (k : Int) + 1 = ((k + 1 : Nat) : Int) by omega]
          obtain ⟨f1, f2⟩ := clr_b hx (show k < 6 by omega)
          refine nx _ f1 (fun j h1 h2 => ?_)
          show bt (clr x k) j = bt H j
          rw [f2 j h2, hj j (by omega) h2, decide_eq_true (show j ≠ k by omega), Bool.and_true]
        · rw [if_neg c2, if_neg c2, xg_pos (by omega), show (k : Int) + 1 = ((k + 1 : Nat) : Int) by omega]
          exact nx _ hx (fun j h1 h2 => hj j (by omega) h2)
      · have c' : x / 2 ^ k % 2 = 0 := by
          have h2 : x / 2 ^ k % 2 = 0 ∨ x / 2 ^ k % 2 = 1 := by
            generalize x / 2 ^ k = z
            omega
          rcases h2 with w | w
          · exact w
          · exfalso
            rw [ebt, decide_eq_true w] at hk
            exact c hk.symm
        rw [if_pos c', if_neg c, xg_pos (by omega), show (k : Int) + 1 = ((k + 1 : Nat) : Int) by omega]
        exact ih (k + 1) n x g (by omega) (by omega) (by omega) hx (fun j h1 h2 => hj j (by omega) h2) e4 e5
    · rw [e_X12_heardNow_8, e4, if_neg (by omega), gdA_z _ _ _ _ (fun j h1 h2 => hz j (by omega) (by omega)), zup_self]
end
section
/-! one day on class and reference -/
def dG (s dd : Nat) (t d u : Nat → Int) (g : yH) : Prop := hv s t u g ∧ (dd < 2 ∧ g 35 33 = (dd : Int)) ∧ g 35 29 = t 5 ∧ ∀ j, j < 121 → g 6 (121 * dd + j) = d j
def nqj (j : Nat) : Prop := j ≠ 34 ∧ j ≠ 35 ∧ j ≠ 49 ∧ j ≠ 50 ∧ j ≠ 51
theorem rQs_nq {j : Nat} (h : j ∈ rQs) : nqj j := by
  have : ∀ j ∈ rQs, j ≠ 34 ∧ j ≠ 35 ∧ j ≠ 49 ∧ j ≠ 50 ∧ j ≠ 51 := by decide
  exact this j h
theorem sH.nf {s : Nat} {t : Nat → Int} {g g2 : yH} (H : sH s t g) (f : ∀ a j, a = 5 ∨ (a = 35 ∧ nqj j) → g2 a j = g a j) : sH s t g2 := H.fr (fun a j w => f a j (by
  rcases w with w | ⟨w, w2 | w2⟩
  · exact Or.inl w
  · exact Or.inr ⟨w, by unfold nqj; omega⟩
  · exact Or.inr ⟨w, rQs_nq w2⟩))
theorem hv.nf {s : Nat} {t u : Nat → Int} {g g2 : yH} (H : hv s t u g) (f : ∀ a j, a = 5 ∨ a = 10 ∨ a = 11 ∨ (a = 35 ∧ nqj j) → g2 a j = g a j) : hv s t u g2 := by
  obtain ⟨k1, k2, k3, k4, k5, k6, k7, k8⟩ := H
  have f35 : ∀ j, 24 ≤ j → j ≤ 28 → g2 35 j = g 35 j := fun j h1 h2 => f 35 j (by unfold nqj; omega)
  refine ⟨k1.nf (fun a j w => f a j (by unfold nqj at w ⊢; omega)), k2, by rw [f35 _ (by omega) (by omega)]; exact k3, by rw [f35 _ (by omega) (by omega)]; exact k4, by rw [f35 _ (by omega) (by omega)]; exact k5, by rw [f35 _ (by omega) (by omega)]; exact k6, by rw [f35 _ (by omega) (by omega)]; exact k7, fun i hi => ?_⟩
  rw [f 10 i (by omega), f 11 i (by omega)]
  exact k8 i hi
theorem dG.fr {s dd : Nat} {t d u : Nat → Int} {g g2 : yH} (H : dG s dd t d u g) (f : ∀ a j, a = 5 ∨ a = 6 ∨ a = 10 ∨ a = 11 ∨ (a = 35 ∧ nqj j) → g2 a j = g a j) : dG s dd t d u g2 := by
  obtain ⟨k1, ⟨k2, k3⟩, k5, k4⟩ := H
  refine ⟨k1.nf (fun a j w => f a j (by unfold nqj at w ⊢; omega)), ⟨k2, ?_⟩, ?_, fun j hj => ?_⟩
  · rw [f 35 33 (by unfold nqj; omega)]; exact k3
  · rw [f 35 29 (by unfold nqj; omega)]; exact k5
  · rw [f 6 _ (by omega)]; exact k4 j hj
/-- hour, names told twice, gulls -/
def dN (K : Int) (h g : yH) : Prop := h 130 6 = g 35 34 ∧ (0 ≤ g 35 34 ∧ g 35 34 ≤ 30) ∧ h 130 7 = g 35 49 ∧ (0 ≤ g 35 49 ∧ g 35 49 ≤ 63) ∧ h 130 14 = K ∧ (0 ≤ K ∧ K ≤ 10) ∧ (g 35 50 = K ∨ (g 35 50 = -1 ∧ K = 0)) ∧ (1 ≤ K → h 130 13 = g 35 51)
/-- a shoal -/
def sI (M B : Int) (i : Nat) (h g : yH) : Prop := ((0 ≤ g 13 i ∧ g 13 i < M) ∧ (0 ≤ g 14 i ∧ g 14 i ≤ 99) ∧ (0 ≤ g 15 i ∧ g 15 i ≤ 4) ∧ (0 ≤ g 19 i ∧ g 19 i ≤ 20) ∧ (-1 ≤ g 16 i ∧ g 16 i ≤ 60) ∧ -1 ≤ g 20 i ∧ g 20 i < B) ∧ (0 < g 14 i → h 132 i = g 13 i ∧ h 133 i = g 14 i ∧ h 134 i = g 15 i ∧ h 135 i = g 19 i ∧ h 136 i = g 16 i ∧ h 137 i = g 20 i)
theorem sI.fr {M B : Int} {i : Nat} {h h2 g g2 : yH} (H : sI M B i h g) (e : g2 13 i = g 13 i ∧ g2 14 i = g 14 i ∧ g2 15 i = g 15 i ∧ g2 19 i = g 19 i ∧ g2 16 i = g 16 i ∧ g2 20 i = g 20 i) (e2 : h2 132 i = h 132 i ∧ h2 133 i = h 133 i ∧ h2 134 i = h 134 i ∧ h2 135 i = h 135 i ∧ h2 136 i = h 136 i ∧ h2 137 i = h 137 i) : sI M B i h2 g2 := by
  obtain ⟨a1, a2, a3, a4, a5, a6⟩ := e
  obtain ⟨b1, b2, b3, b4, b5, b6⟩ := e2
  unfold sI
  rw [a1, a2, a3, a4, a5, a6, b1, b2, b3, b4, b5, b6]
  exact H
def dS (M B : Int) (S : Nat) (h g : yH) : Prop := S ≤ 6 ∧ h 131 7 = (S : Int) ∧ g 35 35 = (S : Int) ∧ (0 ≤ h 131 6 ∧ h 131 6 ≤ 63) ∧ ∀ i, i < 6 → (bt (h 131 6) i = true ↔ i < S ∧ 0 < g 14 i) ∧ (i < S → sI M B i h g) ∧ (S ≤ i → g 20 i = -1 ∧ g 19 i = 0 ∧ g 16 i = -1)
theorem dS.fr {M B : Int} {S : Nat} {h h2 g g2 : yH} (H : dS M B S h g) (f : ∀ a j, (a = 131 ∧ (j = 6 ∨ j = 7)) ∨ (132 ≤ a ∧ a ≤ 137) → h2 a j = h a j) (e : ∀ a j, a = 13 ∨ a = 14 ∨ a = 15 ∨ a = 16 ∨ a = 19 ∨ a = 20 ∨ (a = 35 ∧ j = 35) → g2 a j = g a j) : dS M B S h2 g2 := by
  obtain ⟨k1, k2, k3, k4, k5⟩ := H
  refine ⟨k1, by rw [f _ _ (by omega)]; exact k2, by rw [e _ _ (by omega)]; exact k3, by rw [f _ _ (by omega)]; exact k4, fun i hi => ?_⟩
  obtain ⟨a1, a2, a3⟩ := k5 i hi
  refine ⟨by rw [f _ _ (by omega), e _ _ (by omega)]; exact a1, fun w => (a2 w).fr ⟨e _ _ (by omega), e _ _ (by omega), e _ _ (by omega), e _ _ (by omega), e _ _ (by omega), e _ _ (by omega)⟩ ⟨f _ _ (by omega), f _ _ (by omega), f _ _ (by omega), f _ _ (by omega), f _ _ (by omega), f _ _ (by omega)⟩, fun w => ?_⟩
  rw [e _ _ (by omega), e _ _ (by omega), e _ _ (by omega)]
  exact a3 w
/-- the boats: q lawful claims, c fish at most -/
def dB (M B : Int) (q c : Nat) (p : Nat → Int) (h g : yH) : Prop := (∀ i, i < 6 → 0 ≤ p i ∧ p i ≤ 63) ∧ ∀ i : Nat, (i : Int) < B → (h 138 i = p i ∧ p i < M) ∧ (h 139 i = g 17 i ∧ 0 ≤ g 17 i ∧ g 17 i ≤ (c : Int)) ∧ h 140 i = g 18 i ∧ 0 ≤ g 18 i ∧ g 18 i ≤ (q : Int)
theorem dB.fr {M B : Int} {q c q2 c2 : Nat} {p : Nat → Int} {h h2 g g2 : yH} (H : dB M B q c p h g) (hq : q ≤ q2) (hc : c ≤ c2) (f : ∀ a j, a = 138 ∨ a = 139 ∨ a = 140 → h2 a j = h a j) (e : ∀ a j, a = 17 ∨ a = 18 → g2 a j = g a j) : dB M B q2 c2 p h2 g2 := by
  refine ⟨H.1, fun i hi => ?_⟩
  obtain ⟨⟨a1, a2⟩, ⟨a3, a4, a5⟩, a6, a7, a8⟩ := H.2 i hi
  rw [f _ _ (by omega), f _ _ (by omega), f _ _ (by omega), e _ _ (by omega), e _ _ (by omega)]
  exact ⟨⟨a1, a2⟩, ⟨a3, a4, by omega⟩, a6, a7, by omega⟩
/-- sea and day, the hour, the shoals and the boats -/
def dR (b e s dd : Nat) (t d : Nat → Int) (K : Int) (S q c : Nat) (p : Nat → Int) (h g : yH) : Prop := dC b e t d h ∧ dG s dd t d (bU t p) g ∧ dN K h g ∧ dS (t 0 * t 1) (t 6) S h g ∧ dB (t 0 * t 1) (t 6) q c p h g
/-- told texts: sea, day -/
def dT (t d : Nat → Int) : Prop := tW0 t ∧ wh0 t ∧ tW1 d
/-- cells that the relation does not speak of -/
def nC (a j : Nat) : Prop := (a = 130 ∧ 8 ≤ j ∧ j ≤ 12) ∨ a = 141
def nR (a : Nat) : Prop := 21 ≤ a ∧ a ≤ 25
theorem dR.fr {b e s dd : Nat} {t d : Nat → Int} {K : Int} {S q c q2 c2 : Nat} {p : Nat → Int} {h h2 g g2 : yH} (H : dR b e s dd t d K S q c p h g) (hq : q ≤ q2) (hc : c ≤ c2) (f : ∀ a j, ¬ nC a j → h2 a j = h a j) (f2 : ∀ a j, ¬ nR a → g2 a j = g a j) : dR b e s dd t d K S q2 c2 p h2 g2 := by
  obtain ⟨k1, k2, k3, k4, k5⟩ := H
  unfold nC at f
  unfold nR at f2
  refine ⟨k1.fr (fun a j w => f a j (by omega)), k2.fr (fun a j w => f2 a j (by omega)), ?_, k4.fr (fun a j w => f a j (by omega)) (fun a j w => f2 a j (by omega)), k5.fr hq hc (fun a j w => f a j (by omega)) (fun a j w => f2 a j (by omega))⟩
  unfold dN
  rw [f _ _ (by omega), f _ _ (by omega), f _ _ (by omega), f _ _ (by omega), f2 _ _ (by omega), f2 _ _ (by omega), f2 _ _ (by omega), f2 _ _ (by omega)]
  exact k3
theorem dR.W {b e s dd : Nat} {t d : Nat → Int} {K : Int} {S q c : Nat} {p : Nat → Int} {h g : yH} (H : dR b e s dd t d K S q c p h g) (hT : dT t d) : tW0 (bU t p) := bU_W hT.1 H.2.2.2.2.1
theorem dR.hp {b e s dd : Nat} {t d : Nat → Int} {K : Int} {S q c : Nat} {p : Nat → Int} {h g : yH} (H : dR b e s dd t d K S q c p h g) : ∀ i : Nat, (i : Int) < t 6 → h 138 i = p i := fun i hi => (H.2.2.2.2.2 i hi).1.1
theorem dR.Q {b e s dd : Nat} {t d : Nat → Int} {K : Int} {S q c : Nat} {p : Nat → Int} {h g : yH} (H : dR b e s dd t d K S q c p h g) {j : Nat} {k : Int} (hm : (j, k) ∈ rQL) : g 35 j = k := H.2.1.1.1.2.2.2.p hm
/-- the boat's seat in the reference -/
theorem dR.bp {b e s dd : Nat} {t d : Nat → Int} {K : Int} {S q c : Nat} {p : Nat → Int} {h g : yH} (H : dR b e s dd t d K S q c p h g) (hT : dT t d) {i : Nat} (hi : (i : Int) < t 6) : g 10 i = p i ∧ g 11 i = t (32 + 3 * i) ∧ i < 6 ∧ (0 ≤ p i ∧ p i ≤ 63) ∧ p i < t 0 * t 1 := by
  have w6 := hT.1.wd.2.2.2.2
  have k := H.2.1.1.2.2.2.2.2.2.2 i (by rw [bU_n (j := 6) (by omega)]; exact hi)
  rw [bU_p (show i < 6 by omega), bU_n (j := 32 + 3 * i) (by omega)] at k
  exact ⟨k.1, k.2, by omega, H.2.2.2.2.1 i (by omega), (H.2.2.2.2.2 i hi).1.2⟩
theorem dR.sd {b e s dd : Nat} {t d : Nat → Int} {K s1 s2 : Int} {S q c : Nat} {p : Nat → Int} {h g : yH} (H : dR b e s dd t d K S q c p h g) (hs : 1 ≤ K → s1 = s2) : dR b e s dd t d K S q c p (zup h 130 13 s1) (zup g 35 51 s2) := by
  obtain ⟨k1, k2, k3, k4, k5⟩ := H
  refine ⟨k1.fr (fun a j w => zup_ne (by omega)), k2.fr (fun a j w => zup_ne (by unfold nqj at w; omega)), ?_, k4.fr (fun a j w => zup_ne (by omega)) (fun a j w => zup_ne (by omega)), k5.fr (Nat.le_refl _) (Nat.le_refl _) (fun a j w => zup_ne (by omega)) (fun a j w => zup_ne (by omega))⟩
  obtain ⟨n1, n2, n3, n4, n5, n6, n7, n8⟩ := k3
  unfold dN
  rw [zup_at, zup_at, zup_ne (show ¬ (130 = 130 ∧ 6 = 13) by omega), zup_ne (show ¬ (130 = 130 ∧ 7 = 13) by omega), zup_ne (show ¬ (130 = 130 ∧ 14 = 13) by omega), zup_ne (show ¬ (35 = 35 ∧ 34 = 51) by omega), zup_ne (show ¬ (35 = 35 ∧ 49 = 51) by omega), zup_ne (show ¬ (35 = 35 ∧ 50 = 51) by omega)]
  exact ⟨n1, n2, n3, n4, n5, n6, n7, hs⟩
theorem hearR_e {b e s dd : Nat} {t d : Nat → Int} {K : Int} {S q c : Nat} {p : Nat → Int} {h g : yH} {m a : Nat} (H : dR b e s dd t d K S q c p h g) (hT : dT t d) (hm : 12 ≤ m) (ha : (a : Int) < t 6) : f_X12_hearersOf m [35, (a : Int)] g = some (hrs (bU t p) a, g) := hearersOf_e hm H.2.1.1 (H.W hT) (by rw [bU_n (j := 6) (by omega)]; exact ha)
theorem hearC_e {b e s dd : Nat} {t d : Nat → Int} {K : Int} {S q c : Nat} {p : Nat → Int} {h g : yH} {n a : Nat} (H : dR b e s dd t d K S q c p h g) (hT : dT t d) (hn : 7 ≤ n) (ha : (a : Int) < t 6) : f_X5_hearersNow n [130, (a : Int)] h = some (hrs (bU t p) a, h) := hearersNow_e hn H.1 (H.W hT) H.hp ha (H.bp hT ha).2.2.1
theorem hrs_z {t p : Nat → Int} {a : Nat} (hW : tW0 (bU t p)) (ha : a < 6) : ∀ j : Nat, t 6 ≤ (j : Int) → j < 6 → bt (hrs (bU t p) a) j = false := by
  intro j h1 h2
  have z6 : bU t p 6 = t 6 := bU_n (by omega)
  have w := hW.wd.2.2.2.2
  rw [z6] at w
  have q := hrs_p (a := a) hW
  rw [z6] at q
  exact ((bit_b (hrs_b (a := a) hW)).1 (t 6).toNat (by omega) q).2 j h2 (by omega)
/-- who hears in spite of the gulls -/
theorem gull2 {b e s dd : Nat} {t d : Nat → Int} {K : Int} {S q c : Nat} {p : Nat → Int} {h g : yH} {n m a : Nat} (H : dR b e s dd t d K S q c p h g) (hT : dT t d) (hn : 7 ≤ n) (hm : 12 ≤ m) (ha : (a : Int) < t 6) (h8 : h 130 8 = hrs (bU t p) a) :
    ∃ v s1 s2, f_X5_heardDespiteGulls n [130] h = some (v, zup h 130 13 s1) ∧ f_X12_heardNow m [35, (a : Int)] g = some (v, zup g 35 51 s2) ∧ (1 ≤ K → s1 = s2) ∧ (0 ≤ v ∧ v ≤ 63) ∧ (K < 1 → v = hrs (bU t p) a) := by
  have hb := hrs_b (a := a) (H.W hT)
  obtain ⟨w1, w2, w3, w4, w5⟩ := H.bp hT ha
  have w6 := hT.1.wd.2.2.2.2
  obtain ⟨n1, n2, n3, n4, n5, n6, n7, n8⟩ := H.2.2.1
  have h28 : g 35 28 = t 6 := by
    rw [H.2.1.1.2.2.2.2.2.2.1, bU_n (j := 6) (by omega)]
  have hz : ∀ j, (t 6).toNat ≤ j → j < 6 → bt (hrs (bU t p) a) j = false := fun j h1 h2 => hrs_z (H.W hT) w3 j (by omega) h2
  rw [e_X5_heardDespiteGulls, n5, e_X12_heardNow, hearR_e H hT hm ha, xb_some, h8]
  by_cases c1 : K < 1
  · have c1' : K = 0 := by omega
    rw [if_pos (show K < 1 by omega)]
    by_cases c2 : g 35 50 = -1
    · refine ⟨hrs (bU t p) a, h 130 13, g 35 51, ?_, ?_, fun w => by omega, hb, fun _ => rfl⟩
      · rw [zup_self]
      · rw [zup_self]
        obtain ⟨m, rfl⟩ : ∃ m', m = m' + 1 := ⟨m - 1, by omega⟩
        rw [e_X12_heardNow_8, c2, if_pos rfl]
        split <;> rfl
    · have r := gullR_l (K := g 35 50) (b := a) (B := (t 6).toNat) hb (by omega) hz c2 6 0 m (hrs (bU t p) a) g (by omega) (by omega) (by omega) hb (fun j _ _ => rfl) (by rw [h28]; omega) rfl
      rw [gdA_n (by omega), show ((0 : Nat) : Int) = 0 from rfl] at r
      exact ⟨_, h 130 13, _, by rw [zup_self], r, fun w => by omega, hb, fun _ => rfl⟩
  · rw [if_neg (show ¬ K < 1 by omega)]
    have r := gullR_l (K := K) (b := a) (B := (t 6).toNat) hb (by omega) hz (by omega) 6 0 m (hrs (bU t p) a) g (by omega) (by omega) (by omega) hb (fun j _ _ => rfl) (by rw [h28]; omega) (by omega)
    have l := gullC_l (K := K) hb 6 0 n (hrs (bU t p) a) h (by omega) (by omega) h8 n5
    rw [n8 (by omega), show ((0 : Nat) : Int) = 0 from rfl] at l
    rw [show ((0 : Nat) : Int) = 0 from rfl] at r
    exact ⟨_, _, _, l, r, fun _ => rfl, gdA_b 6 0 _ _ (by omega) hb, fun w => by omega⟩
end
section
/-! a claim on both sides -/
theorem holderNow_e {n i : Nat} {g : yH} (hq : rQ g) (hi : i < 6) : f_X12_holderNow n [35, (i : Int)] g = some (hdN (g 16 i) (g 20 i) (g 35 34), g) := by
  rw [e_X12_holderNow, xg_pos (hq.p (j := 41) (k := 16) (by decide)), xg_pos (by omega), Int.toNat_natCast]
  unfold hdN
  by_cases c : g 16 i < g 35 34
  · rw [if_pos c, if_pos c]
  · rw [if_neg c, if_neg c, xg_pos (hq.p (j := 39) (k := 20) (by decide)), xg_pos (by omega)]
theorem law3_b {t : Nat → Int} {a w : Nat} (hW : tW0 t) (ha : a < 6) (hw : w < 4) : 0 ≤ lawV t a w ∧ lawV t a w ≤ 30 := by
  have q := hW.bt ha
  have h8 := hW.2.2.2.2.2.2.2.2.1 (t (33 + 3 * a)).toNat (by omega)
  unfold lawV
  generalize (t (33 + 3 * a)).toNat = k at *
  rcases (show w = 0 ∨ w = 1 ∨ w = 2 ∨ w = 3 by omega) with rfl | rfl | rfl | rfl
  · rw [Nat.add_zero]; omega
  · rw [show 7 + 4 * k + 1 = 8 + 4 * k by omega]; omega
  · rw [show 7 + 4 * k + 2 = 9 + 4 * k by omega]; omega
  · rw [show 7 + 4 * k + 3 = 10 + 4 * k by omega]; omega
/-- what class and reference say of one claim -/
theorem lack2 {b e s dd : Nat} {t d : Nat → Int} {K : Int} {S q c : Nat} {p : Nat → Int} {h g : yH} {n m a i : Nat} {w said : Int} (H : dR b e s dd t d K S q c p h g) (hT : dT t d) (hm : 17 ≤ m) (ha : (a : Int) < t 6) (hi : i < S) (h14 : 0 < g 14 i) (hw : 0 ≤ w ∧ w ≤ 63) :
    f_X5_lacking n [130, (a : Int), (i : Int), w] h = some (lkC t a (hdN (g 16 i) (g 20 i) (g 35 34)) w (p a) (g 13 i), h) ∧ f_X12_lackOf m [35, (a : Int), (i : Int), said, w] g = some (lkC t a (hdN (g 16 i) (g 20 i) (g 35 34)) w (p a) (g 13 i) + (if said < lawV t a 0 then 8 else 0), g) := by
  obtain ⟨w1, w2, w3, w4, w5⟩ := H.bp hT ha
  obtain ⟨S6, -, -, -, kS⟩ := id H.2.2.2.1
  obtain ⟨-, i2, -⟩ := kS i (by omega)
  obtain ⟨⟨j1, -⟩, i3⟩ := i2 hi
  obtain ⟨i4, i5, i6, i7, i8, i9⟩ := i3 h14
  have d0 := hT.1.wd
  have j2 := pW_63 hT.1.1 hT.1.2.1 j1
  obtain ⟨n1, -⟩ := id H.2.2.1
  have h138 := H.hp a ha
  constructor
  · have l := lackC_e (n := n) (i := i) (w := w) H.1 hT.1 ha (by omega) hw (by rw [h138]; exact w4) (by rw [i4]; exact j2)
    rw [h138, i4, i8, i9, n1] at l
    exact l
  · have hs := H.2.1.1.1
    have P : ∀ {j : Nat} {kk : Int}, (j, kk) ∈ rQL → g 35 j = kk := fun hm => H.Q hm
    have l0 := lawOf_e (n := m) (w := 0) hs hT.1 w3 (by decide)
    have l1 := lawOf_e (n := m) (w := 1) hs hT.1 w3 (by decide)
    have l2 := lawOf_e (n := m) (w := 2) hs hT.1 w3 (by decide)
    rw [show ((0 : Nat) : Int) = 0 from rfl] at l0
    rw [show ((1 : Nat) : Int) = 1 from rfl] at l1
    rw [show ((2 : Nat) : Int) = 2 from rfl] at l2
    have z0 : bU t p 0 = t 0 := bU_n (by omega)
    have z2 : bU t p 2 = t 2 := bU_n (by omega)
    have z3 : bU t p 3 = t 3 := bU_n (by omega)
    have v := H.2.1.1
    have fin : ∀ x5 x6 y0 y1 : Int, xq_X12_lackOf_47 m [35, (a : Int), (i : Int), said, w, x5, x6, y0, y1] g = some (if said < lawV t a 0 then yari 8 (yari 8 (yari 8 y1 y0) (if lawV t a 2 < cst (t 0) (t 2) (t 3) (p a) (g 13 i) then 4 else 0)) 8 else yari 8 (yari 8 y1 y0) (if lawV t a 2 < cst (t 0) (t 2) (t 3) (p a) (g 13 i) then 4 else 0), g) := by
      intro x5 x6 y0 y1
      rw [e_X12_lackOf_47, xg_pos (P (j := 30) (kk := 10) (by decide)), xg_pos (by omega), xg_pos (P (j := 36) (kk := 13) (by decide)), xg_pos (by omega), Int.toNat_natCast, Int.toNat_natCast, w1, costOf_e (by omega) (v.2.2.1.trans z0) (v.2.2.2.2.1.trans z2) (v.2.2.2.2.2.1.trans z3) d0.1 d0.2.2.1 d0.2.2.2.1 w4 j2, xb_some, l2, xb_some]
      by_cases c3 : lawV t a 2 < cst (t 0) (t 2) (t 3) (p a) (g 13 i)
      · rw [if_pos c3, if_pos c3, e_X12_lackOf_82, l0, xb_some]
        split <;> rfl
      · rw [if_neg c3, if_neg c3, e_X12_lackOf_82, l0, xb_some]
        split <;> rfl
    rw [e_X12_lackOf, holderNow_e hs.2.2.2 (by omega), xb_some]
    unfold lkC lkB
    generalize hdN (g 16 i) (g 20 i) (g 35 34) = hol
    have tail : ∀ (x5 : Int), (hol = -1 ∨ hol = (a : Int)) → xq_X12_lackOf_23 m [35, (a : Int), (i : Int), said, w, x5] g = some ((if decide (hol ≠ -1 ∧ hol ≠ (a : Int)) = true then 1 else 0) + (if decide (bcn w < lawV t a 1) = true then 2 else 0) + (if decide (lawV t a 2 < cst (t 0) (t 2) (t 3) (p a) (g 13 i)) = true then 4 else 0) + (if said < lawV t a 0 then 8 else 0), g) := by
      intro x5 hh
      rw [e_X12_lackOf_23, ones_e hm hw, xb_some, l1, xb_some, decide_eq_false (show ¬ (hol ≠ -1 ∧ hol ≠ (a : Int)) from fun q => by
        rcases hh with hh | hh
        · exact q.1 hh
        · exact q.2 hh), fin, fin]
      by_cases c2 : bcn w < lawV t a 1
      · rw [if_pos c2, decide_eq_true c2]
        by_cases c3 : lawV t a 2 < cst (t 0) (t 2) (t 3) (p a) (g 13 i)
        · rw [if_pos c3, decide_eq_true c3]
          by_cases c4 : said < lawV t a 0
          · rw [if_pos c4, if_pos c4]; exact so_e (by decide +kernel)
          · rw [if_neg c4, if_neg c4]; exact so_e (by decide +kernel)
        · rw [if_neg c3, decide_eq_false c3]
          by_cases c4 : said < lawV t a 0
          · rw [if_pos c4, if_pos c4]; exact so_e (by decide +kernel)
          · rw [if_neg c4, if_neg c4]; exact so_e (by decide +kernel)
      · rw [if_neg c2, decide_eq_false c2]
        by_cases c3 : lawV t a 2 < cst (t 0) (t 2) (t 3) (p a) (g 13 i)
        · rw [if_pos c3, decide_eq_true c3]
          by_cases c4 : said < lawV t a 0
          · rw [if_pos c4, if_pos c4]; exact so_e (by decide +kernel)
          · rw [if_neg c4, if_neg c4]; exact so_e (by decide +kernel)
        · rw [if_neg c3, decide_eq_false c3]
          by_cases c4 : said < lawV t a 0
          · rw [if_pos c4, if_pos c4]; exact so_e (by decide +kernel)
          · rw [if_neg c4, if_neg c4]; exact so_e (by decide +kernel)
    by_cases c1 : hol = -1
    · rw [if_pos c1]
      exact tail hol (Or.inl c1)
    · rw [if_neg c1]
      by_cases c5 : hol = (a : Int)
      · rw [if_pos c5]
        exact tail hol (Or.inr c5)
      · rw [if_neg c5, ones_e hm hw, xb_some, l1, xb_some, decide_eq_true (show hol ≠ -1 ∧ hol ≠ (a : Int) from ⟨c1, c5⟩), fin, fin]
        by_cases c2 : bcn w < lawV t a 1
        · rw [if_pos c2, decide_eq_true c2]
          by_cases c3 : lawV t a 2 < cst (t 0) (t 2) (t 3) (p a) (g 13 i)
          · rw [if_pos c3, decide_eq_true c3]
            by_cases c4 : said < lawV t a 0
            · rw [if_pos c4, if_pos c4]; exact so_e (by decide +kernel)
            · rw [if_neg c4, if_neg c4]; exact so_e (by decide +kernel)
          · rw [if_neg c3, decide_eq_false c3]
            by_cases c4 : said < lawV t a 0
            · rw [if_pos c4, if_pos c4]; exact so_e (by decide +kernel)
            · rw [if_neg c4, if_neg c4]; exact so_e (by decide +kernel)
        · rw [if_neg c2, decide_eq_false c2]
          by_cases c3 : lawV t a 2 < cst (t 0) (t 2) (t 3) (p a) (g 13 i)
          · rw [if_pos c3, decide_eq_true c3]
            by_cases c4 : said < lawV t a 0
            · rw [if_pos c4, if_pos c4]; exact so_e (by decide +kernel)
            · rw [if_neg c4, if_neg c4]; exact so_e (by decide +kernel)
          · rw [if_neg c3, decide_eq_false c3]
            by_cases c4 : said < lawV t a 0
            · rw [if_pos c4, if_pos c4]; exact so_e (by decide +kernel)
            · rw [if_neg c4, if_neg c4]; exact so_e (by decide +kernel)
theorem dS.hold {M B : Int} {S i a : Nat} {said x : Int} {h g : yH} (H : dS M B S h g) (hi : i < S) (ha : (a : Int) < B) (hsd : 0 ≤ said ∧ said ≤ 20) (hx : -1 ≤ x ∧ x ≤ 60) : dS M B S (zup (zup (zup h 137 i (a : Int)) 135 i said) 136 i x) (zup (zup (zup g 20 i (a : Int)) 19 i said) 16 i x) := by
  obtain ⟨k1, k2, k3, k4, k5⟩ := H
  refine ⟨k1, by rw [zup_ne (by omega), zup_ne (by omega), zup_ne (by omega)]; exact k2, by rw [zup_ne (by omega), zup_ne (by omega), zup_ne (by omega)]; exact k3, by rw [zup_ne (by omega), zup_ne (by omega), zup_ne (by omega)]; exact k4, fun j hj => ?_⟩
  obtain ⟨a1, a2, a3⟩ := k5 j hj
  refine ⟨?_, fun w => ?_, fun w => ?_⟩
  · rw [zup_ne (show ¬ (131 = 136 ∧ 6 = i) by omega), zup_ne (show ¬ (131 = 135 ∧ 6 = i) by omega), zup_ne (show ¬ (131 = 137 ∧ 6 = i) by omega), zup_ne (show ¬ (14 = 16 ∧ j = i) by omega), zup_ne (show ¬ (14 = 19 ∧ j = i) by omega), zup_ne (show ¬ (14 = 20 ∧ j = i) by omega)]
    exact a1
  · by_cases q : j = i
    · subst q
      obtain ⟨⟨b1, b2, b3, b4, b5, b6⟩, b7⟩ := a2 w
      unfold sI
      simp only [zup_app]
      simp
      omega
    · refine (a2 w).fr ⟨?_, ?_, ?_, ?_, ?_, ?_⟩ ⟨?_, ?_, ?_, ?_, ?_, ?_⟩ <;> rw [zup_ne (by omega), zup_ne (by omega), zup_ne (by omega)]
  · rw [zup_ne (show ¬ (20 = 16 ∧ j = i) by omega), zup_ne (show ¬ (20 = 19 ∧ j = i) by omega), zup_ne (show ¬ (20 = 20 ∧ j = i) by omega), zup_ne (show ¬ (19 = 16 ∧ j = i) by omega), zup_ne (show ¬ (19 = 19 ∧ j = i) by omega), zup_ne (show ¬ (19 = 20 ∧ j = i) by omega), zup_ne (show ¬ (16 = 16 ∧ j = i) by omega), zup_ne (show ¬ (16 = 19 ∧ j = i) by omega), zup_ne (show ¬ (16 = 20 ∧ j = i) by omega)]
    exact a3 w
theorem dB.law {M B : Int} {q c a : Nat} {p : Nat → Int} {h g : yH} {x y : Int} (H : dB M B q c p h g) (ha : (a : Int) < B) (hx : x = h 140 a + 1) (hy : y = g 18 a + 1) : dB M B (q + 1) c p (zup h 140 a x) (zup g 18 a y) := by
  refine ⟨H.1, fun i hi => ?_⟩
  obtain ⟨⟨a1, a2⟩, ⟨a3, a4, a5⟩, a6, a7, a8⟩ := H.2 i hi
  rw [zup_ne (show ¬ (138 = 140 ∧ i = a) by omega), zup_ne (show ¬ (139 = 140 ∧ i = a) by omega), zup_ne (show ¬ (17 = 18 ∧ i = a) by omega)]
  refine ⟨⟨a1, a2⟩, ⟨a3, a4, a5⟩, ?_⟩
  by_cases w : i = a
  · subst w
    rw [zup_at, zup_at, hx, hy]
    omega
  · rw [zup_ne (by omega), zup_ne (by omega)]
    omega
end
section
/-! one claim: both sides go on alike -/
def frC (h h2 : yH) : Prop := ∀ a j, a < 130 ∨ 142 ≤ a → h2 a j = h a j
def frR (kk : Nat) (g g2 : yH) : Prop := (∀ a j, a ≤ 9 ∨ a = 11 ∨ a = 12 ∨ (26 ≤ a ∧ a ≤ 34) → g2 a j = g a j) ∧ ∀ a j, 21 ≤ a → a ≤ 25 → j ≠ kk → g2 a j = g a j
theorem frC.t {h h1 h2 : yH} (a : frC h h1) (b : frC h1 h2) : frC h h2 := fun i j w => (b i j w).trans (a i j w)
theorem frC.r {h : yH} : frC h h := fun _ _ _ => rfl
theorem frR.t {kk : Nat} {g g1 g2 : yH} (a : frR kk g g1) (b : frR kk g1 g2) : frR kk g g2 := ⟨fun i j w => (b.1 i j w).trans (a.1 i j w), fun i j w1 w2 w3 => (b.2 i j w1 w2 w3).trans (a.2 i j w1 w2 w3)⟩
theorem frR.r {kk : Nat} {g : yH} : frR kk g g := ⟨fun _ _ _ => rfl, fun _ _ _ _ _ => rfl⟩
/-- what a claim leaves -/
def clR (b e s dd : Nat) (t d : Nat → Int) (K : Int) (S q c : Nat) (p : Nat → Int) (a kk : Nat) (h g h2 g2 : yH) : Prop :=
  dR b e s dd t d K S (q + 1) c p h2 g2 ∧ (h2 130 8 = h 130 8 ∧ h2 131 6 = h 131 6) ∧ (∀ j, g2 14 j = g 14 j) ∧ (g2 35 34 = g 35 34 ∧ g2 35 50 = g 35 50) ∧ (h 130 9 = g 21 kk → h2 130 9 = g2 21 kk) ∧ (K < 1 → g2 22 kk = yari 8 (g 22 kk) (hrs (bU t p) a)) ∧ frC h h2 ∧ frR kk g g2
theorem claim2 {b e s dd a i kk n m S q c : Nat} {t d p : Nat → Int} {K said bits : Int} {h g : yH} (H : dR b e s dd t d K S q c p h g) (hT : dT t d) (hn : 7 ≤ n) (hm : 20 ≤ m) (ha : (a : Int) < t 6) (hi : i < S) (h14 : 0 < g 14 i) (hsd : 0 ≤ said ∧ said ≤ 20) (hk : g 35 34 = (kk : Int)) (hk30 : kk < 30) (h8 : h 130 8 = hrs (bU t p) a) (hbit : ¬ yari 7 (yari 6 bits (i : Int)) 1 = 0) (hq : q ≤ 1000) :
    ∃ h2 g2, xl_X5_claimShoals (n + 1) 59 [130, (a : Int), bits, said, (if said < lawV t a 0 then 0 else 1), (i : Int)] h = xl_X5_claimShoals n 59 [130, (a : Int), bits, said, (if said < lawV t a 0 then 0 else 1), ((i + 1 : Nat) : Int)] h2 ∧ f_X12_claim m [35, (kk : Int), (a : Int), (i : Int), said] g = some (0, g2) ∧ clR b e s dd t d K S q c p a kk h g h2 g2 := by
  obtain ⟨v, s1, s2, r1, r2, r3, r4, r5⟩ := gull2 (n := n) (m := m) H hT hn (by omega) ha h8
  obtain ⟨w1, w2, w3, w4, w5⟩ := H.bp hT ha
  have S6 : S ≤ 6 := H.2.2.2.1.1
  have H1 : dR b e s dd t d K S q c p (zup h 130 13 s1) (zup (zup g 35 51 s2) 22 kk (yari 8 ((zup g 35 51 s2) 22 kk) v)) := (H.sd r3).fr (Nat.le_refl _) (Nat.le_refl _) (fun _ _ _ => rfl) (fun a j w => zup_ne (by unfold nR at w; omega))
  have Q : ∀ {j : Nat} {k : Int}, (j, k) ∈ rQL → (zup g 35 51 s2) 35 j = k := fun hm => (H.sd r3).Q hm
  have g22 : (zup g 35 51 s2) 22 kk = g 22 kk := zup_ne (by omega)
  rw [g22] at H1
  have fc1 : frC h (zup h 130 13 s1) := fun a j w => zup_ne (by omega)
  have fr1 : frR kk g (zup (zup g 35 51 s2) 22 kk (yari 8 (g 22 kk) v)) := ⟨fun a j w => by rw [zup_ne (by omega), zup_ne (by omega)], fun a j w1 w2 w3 => by rw [zup_ne (by omega), zup_ne (by omega)]⟩
  have e14 : ∀ j, (zup (zup g 35 51 s2) 22 kk (yari 8 (g 22 kk) v)) 14 j = g 14 j := fun j => by rw [zup_ne (by omega), zup_ne (by omega)]
  have e34 : (zup (zup g 35 51 s2) 22 kk (yari 8 (g 22 kk) v)) 35 34 = g 35 34 := by rw [zup_ne (by omega), zup_ne (by omega)]
  have e50 : (zup (zup g 35 51 s2) 22 kk (yari 8 (g 22 kk) v)) 35 50 = g 35 50 := by rw [zup_ne (by omega), zup_ne (by omega)]
  have e21 : (zup (zup g 35 51 s2) 22 kk (yari 8 (g 22 kk) v)) 21 kk = g 21 kk := by rw [zup_ne (by omega), zup_ne (by omega)]
  have e22 : (zup (zup g 35 51 s2) 22 kk (yari 8 (g 22 kk) v)) 22 kk = yari 8 (g 22 kk) v := zup_at _ _ _ _
  have c8 : (zup h 130 13 s1) 130 8 = h 130 8 := zup_ne (by omega)
  have c9 : (zup h 130 13 s1) 130 9 = h 130 9 := zup_ne (by omega)
  have c6 : (zup h 130 13 s1) 131 6 = h 131 6 := zup_ne (by omega)
  have LL := lack2 (n := n) (m := m) (i := i) (w := v) (said := said) H1 hT (by omega) ha hi (by rw [e14]; exact h14) r4
  obtain ⟨L1, L2⟩ := LL
  have LB := lkC_0 (t := t) (a := a) (hol := hdN ((zup (zup g 35 51 s2) 22 kk (yari 8 (g 22 kk) v)) 16 i) ((zup (zup g 35 51 s2) 22 kk (yari 8 (g 22 kk) v)) 20 i) ((zup (zup g 35 51 s2) 22 kk (yari 8 (g 22 kk) v)) 35 34)) (w := v) (ac := p a) (ic := (zup (zup g 35 51 s2) 22 kk (yari 8 (g 22 kk) v)) 13 i)
  generalize lkC t a (hdN ((zup (zup g 35 51 s2) 22 kk (yari 8 (g 22 kk) v)) 16 i) ((zup (zup g 35 51 s2) 22 kk (yari 8 (g 22 kk) v)) 20 i) ((zup (zup g 35 51 s2) 22 kk (yari 8 (g 22 kk) v)) 35 34)) v (p a) ((zup (zup g 35 51 s2) 22 kk (yari 8 (g 22 kk) v)) 13 i) = lk at *
  have k22 : K < 1 → (zup (zup g 35 51 s2) 22 kk (yari 8 (g 22 kk) v)) 22 kk = yari 8 (g 22 kk) (hrs (bU t p) a) := fun w => by rw [e22, r5 w]
  have eR : ∀ r : yO, (if lk + (if said < lawV t a 0 then 8 else 0) = 1 then xq_X12_claim_48 m [35, (kk : Int), (a : Int), (i : Int), said, v, lk + (if said < lawV t a 0 then 8 else 0), yari 5 1 (i : Int), (zup (zup g 35 51 s2) 22 kk (yari 8 (g 22 kk) v)) 35 49, 35] (zup (zup g 35 51 s2) 22 kk (yari 8 (g 22 kk) v)) else xq_X12_claim_48 m [35, (kk : Int), (a : Int), (i : Int), said, v, lk + (if said < lawV t a 0 then 8 else 0), 0, (zup (zup g 35 51 s2) 22 kk (yari 8 (g 22 kk) v)) 35 49, 35] (zup (zup g 35 51 s2) 22 kk (yari 8 (g 22 kk) v))) = r → f_X12_claim m [35, (kk : Int), (a : Int), (i : Int), said] g = r := by
    intro r e
    rw [e_X12_claim, r2, xb_some, xg_pos (Q (j := 45) (k := 22) (by decide)), xg_pos (by omega), xg_pos (by omega), Int.toNat_natCast kk, g22, L2, xb_some]
    exact e
  have eC : ∀ (x4 : Int) (r : yO), (if x4 = 0 then xq_X5_claimShoals_149 n (xl_X5_claimShoals n) [130, (a : Int), bits, said, x4, (i : Int), lk] (zup h 130 13 s1) else (if lk = 0 then (xg ((zup h 130 13 s1) 130 2 = 131) (xg (0 ≤ ((zup h 130 13 s1) 130 0)) (xb (f_X6_lawOf n [((zup h 130 13 s1) 130 0), (a : Int), 3] (zup h 130 13 s1)) (fun v3 h3 => xg (-2147483648 ≤ ((zup h 130 13 s1) 130 6) + v3 ∧ ((zup h 130 13 s1) 130 6) + v3 ≤ 2147483647) (xb (f_X7_hold n [131, (i : Int), (a : Int), said, (((zup h 130 13 s1) 130 6) + v3)] h3) (fun _ h4 => xg (h4 130 5 = 140) (xg (0 ≤ (a : Int) ∧ (a : Int) < 6) (xg (-2147483648 ≤ (h4 140 (a : Int).toNat) + 1 ∧ (h4 140 (a : Int).toNat) + 1 ≤ 2147483647) (xg (0 ≤ (a : Int) ∧ (a : Int) < 6) (xq_X5_claimShoals_149 n (xl_X5_claimShoals n) [130, (a : Int), bits, said, x4, (i : Int), lk] (zup (zup h4 140 (a : Int).toNat ((h4 140 (a : Int).toNat) + 1)) 130 9 (yari 8 (h4 130 9) (yari 5 1 (i : Int)))))))))))))) else xq_X5_claimShoals_149 n (xl_X5_claimShoals n) [130, (a : Int), bits, said, x4, (i : Int), lk] (zup h 130 13 s1))) = r → xl_X5_claimShoals (n + 1) 59 [130, (a : Int), bits, said, x4, (i : Int)] h = r := by
    intro x4 r e
    rw [e_X5_claimShoals_59, if_pos (by omega), if_neg hbit, r1, xb_some, L1, xb_some]
    exact e
  clear L1 L2 r1 r2 e22 Q g22
  generalize zup (zup g 35 51 s2) 22 kk (yari 8 (g 22 kk) v) = g1 at *
  generalize zup h 130 13 s1 = h1 at *
  obtain ⟨n1, n2, n3, n4, n5, n6, n7, n8⟩ := id H1.2.2.1
  have nxt : (i : Int) + 1 = ((i + 1 : Nat) : Int) := by omega
  have Q1 : ∀ {j : Nat} {k : Int}, (j, k) ∈ rQL → g1 35 j = k := fun hm => H1.Q hm
  have z49 : zup g1 35 49 (yari 8 (g1 35 49) 0) = g1 := by rw [or0 n4, zup_self]
  have same : clR b e s dd t d K S q c p a kk h g h1 g1 := ⟨H1.fr (by omega) (Nat.le_refl _) (fun _ _ _ => rfl) (fun _ _ _ => rfl), ⟨c8, c6⟩, e14, ⟨e34, e50⟩, fun w => by rw [c9, e21]; exact w, k22, fc1, fr1⟩
  by_cases c0 : said < lawV t a 0
  · rw [if_pos c0]
    rw [if_pos c0] at eR
    refine ⟨h1, g1, eC 0 _ ?_, eR _ ?_, same⟩
    · rw [if_pos rfl, e_X5_claimShoals_149, if_pos rfl, xg_pos (by omega), nxt]
    · rw [if_neg (by omega), e_X12_claim_48, if_neg (by omega), z49]
  · rw [if_neg c0]
    rw [if_neg c0, Int.add_zero] at eR
    by_cases c1 : lk = 0
    · have l3 := lawC_e (n := n) (w := 3) H1.1.2.2.2.2.1 H1.1.2.2.2.2.2.1 hT.1 ha (by decide)
      have b3 := law3_b (w := 3) hT.1 w3 (by decide)
      rw [show ((3 : Nat) : Int) = 3 from rfl] at l3
      obtain ⟨p1, p2, p3, p4, p5, p6, p7, p8, p9, p10, p11⟩ := id H1.1.2.1
      obtain ⟨-, dBa⟩ := id H1.2.2.2.2
      obtain ⟨-, -, b140, b18, b18'⟩ := dBa a ha
      have hk1 : g1 35 34 = (kk : Int) := e34.trans hk
      have fh : ∀ x j, ¬ ((x = 135 ∨ x = 136 ∨ x = 137) ∧ j = i) → (zup (zup (zup h1 137 i (a : Int)) 135 i said) 136 i ((kk : Int) + lawV t a 3)) x j = h1 x j := fun x j w => by rw [zup_ne (by omega), zup_ne (by omega), zup_ne (by omega)]
      have l3' : ∀ g2 : yH, sH s t g2 → f_X12_lawOf m [35, (a : Int), 3] g2 = some (lawV t a 3, g2) := fun g2 h2 => by
        have := lawOf_e (n := m) (w := 3) h2 hT.1 w3 (by decide)
        rw [show ((3 : Nat) : Int) = 3 from rfl] at this
        exact this
      have sH2 : sH s t (zup (zup (zup (zup g1 21 kk (yari 8 (g1 21 kk) (yari 5 1 (i : Int)))) 18 a (g1 18 a + 1)) 20 i (a : Int)) 19 i said) := H1.2.1.1.1.nf (fun x j w => by rw [zup_ne (by omega), zup_ne (by omega), zup_ne (by omega), zup_ne (by omega)])
      have D1 : dS (t 0 * t 1) (t 6) S h1 (zup (zup g1 21 kk (yari 8 (g1 21 kk) (yari 5 1 (i : Int)))) 18 a (g1 18 a + 1)) := H1.2.2.2.1.fr (fun _ _ _ => rfl) (fun x j w => by rw [zup_ne (by omega), zup_ne (by omega)])
      have D2 := D1.hold (a := a) (said := said) (x := (kk : Int) + lawV t a 3) hi ha hsd (by omega)
      have B2 := H1.2.2.2.2.law (x := h1 140 a + 1) (y := g1 18 a + 1) ha rfl rfl
      refine ⟨zup (zup (zup (zup (zup h1 137 i (a : Int)) 135 i said) 136 i ((kk : Int) + lawV t a 3)) 140 a (h1 140 a + 1)) 130 9 (yari 8 (h1 130 9) (yari 5 1 (i : Int))), zup (zup (zup (zup (zup g1 21 kk (yari 8 (g1 21 kk) (yari 5 1 (i : Int)))) 18 a (g1 18 a + 1)) 20 i (a : Int)) 19 i said) 16 i ((kk : Int) + lawV t a 3), eC 1 _ ?_, eR _ ?_, ⟨?_, ?_, ?_, ?_, ?_⟩, ⟨?_, ?_⟩, fun j => ?_, ⟨?_, ?_⟩, fun w => ?_, fun w => ?_, fun x j w => ?_, ⟨fun x j w => ?_, fun x j y1 y2 y3 => ?_⟩⟩
      · rw [if_neg (by decide), if_pos c1, xg_pos p1, H1.1.2.2.1, xg_pos (by omega), l3, xb_some, n1, hk1, xg_pos (by omega), e_X7_hold, xg_pos p11, xg_pos (by omega), xg_pos (by omega), xg_pos p9, xg_pos (by omega), xg_pos p10, xg_pos (by omega), xb_some, Int.toNat_natCast i, Int.toNat_natCast a, xg_pos (by rw [fh _ _ (by omega)]; exact p4), xg_pos (by omega), fh 140 a (by omega), fh 130 9 (by omega), xg_pos (by omega), xg_pos (by omega), e_X5_claimShoals_149, if_neg (by decide), if_neg (by omega), xg_pos (by omega), nxt]
      · rw [if_neg (by omega), e_X12_claim_48, if_pos c1, xg_pos (Q1 (j := 44) (k := 21) (by decide)), xg_pos (by omega), xg_pos (by omega), xg_pos (Q1 (j := 43) (k := 18) (by decide)), xg_pos (by omega), Int.toNat_natCast kk, Int.toNat_natCast a, Int.toNat_natCast i, xg_pos (by omega), xg_pos (by omega), xg_pos (Q1 (j := 39) (k := 20) (by decide)), xg_pos (by omega), xg_pos (by omega), xg_pos (Q1 (j := 40) (k := 19) (by decide)), xg_pos (by omega), xg_pos (by omega), xg_pos (Q1 (j := 41) (k := 16) (by decide)), z49, l3' _ sH2, xb_some, hk1, xg_pos (by omega), xg_pos (by omega)]
      · exact H1.1.fr (fun x j w => by rw [zup_ne (by omega), zup_ne (by omega), fh _ _ (by omega)])
      · exact H1.2.1.fr (fun x j w => by
          unfold nqj at w
          rw [zup_ne (by omega), zup_ne (by omega), zup_ne (by omega), zup_ne (by omega), zup_ne (by omega)])
      · have e1 : ∀ j, j ≠ 9 → (zup (zup (zup (zup (zup h1 137 i (a : Int)) 135 i said) 136 i ((kk : Int) + lawV t a 3)) 140 a (h1 140 a + 1)) 130 9 (yari 8 (h1 130 9) (yari 5 1 (i : Int)))) 130 j = h1 130 j := fun j w => by rw [zup_ne (by omega), zup_ne (by omega), fh _ _ (by omega)]
        have e2 : ∀ j, (zup (zup (zup (zup (zup g1 21 kk (yari 8 (g1 21 kk) (yari 5 1 (i : Int)))) 18 a (g1 18 a + 1)) 20 i (a : Int)) 19 i said) 16 i ((kk : Int) + lawV t a 3)) 35 j = g1 35 j := fun j => by rw [zup_ne (by omega), zup_ne (by omega), zup_ne (by omega), zup_ne (by omega), zup_ne (by omega)]
        unfold dN
        rw [e1 6 (by omega), e1 7 (by omega), e1 14 (by omega), e1 13 (by omega), e2, e2, e2, e2]
        exact ⟨n1, n2, n3, n4, n5, n6, n7, n8⟩
      · exact D2.fr (fun x j w => by rw [zup_ne (by omega), zup_ne (by omega)]) (fun _ _ _ => rfl)
      · exact B2.fr (Nat.le_refl _) (Nat.le_refl _) (fun x j w => by
          rw [zup_ne (show ¬ (x = 130 ∧ j = 9) by omega)]
          by_cases y : x = 140 ∧ j = a
          · rw [y.1, y.2, zup_at, zup_at]
          · rw [zup_ne y, zup_ne y, fh _ _ (by omega)]) (fun x j w => by
          rw [zup_ne (by omega), zup_ne (by omega), zup_ne (by omega)]
          by_cases y : x = 18 ∧ j = a
          · rw [y.1, y.2, zup_at, zup_at]
          · rw [zup_ne y, zup_ne y, zup_ne (by omega)])
      · rw [zup_ne (by omega), zup_ne (by omega), fh _ _ (by omega)]; exact c8
      · rw [zup_ne (by omega), zup_ne (by omega), fh _ _ (by omega)]; exact c6
      · rw [zup_ne (by omega), zup_ne (by omega), zup_ne (by omega), zup_ne (by omega), zup_ne (by omega)]; exact e14 j
      · rw [zup_ne (by omega), zup_ne (by omega), zup_ne (by omega), zup_ne (by omega), zup_ne (by omega)]; exact e34
      · rw [zup_ne (by omega), zup_ne (by omega), zup_ne (by omega), zup_ne (by omega), zup_ne (by omega)]; exact e50
      · rw [zup_at, zup_ne (by omega), zup_ne (by omega), zup_ne (by omega), zup_ne (by omega), zup_at, c9, e21, w]
      · rw [zup_ne (by omega), zup_ne (by omega), zup_ne (by omega), zup_ne (by omega), zup_ne (by omega)]; exact k22 w
      · rw [zup_ne (by omega), zup_ne (by omega), fh _ _ (by omega)]; exact fc1 x j w
      · rw [zup_ne (by omega), zup_ne (by omega), zup_ne (by omega), zup_ne (by omega), zup_ne (by omega)]; exact fr1.1 x j w
      · rw [zup_ne (by omega), zup_ne (by omega), zup_ne (by omega), zup_ne (by omega), zup_ne (by omega)]; exact fr1.2 x j y1 y2 y3
    · by_cases c2 : lk = 1
      · obtain ⟨o1, -⟩ := or_b n4 (shF ⟨i, by omega⟩).1
        simp only at o1
        refine ⟨zup h1 130 7 (yari 8 (g1 35 49) (yari 5 1 (i : Int))), zup g1 35 49 (yari 8 (g1 35 49) (yari 5 1 (i : Int))), eC 1 _ ?_, eR _ ?_, ⟨?_, ?_, ?_, ?_, ?_⟩, ⟨?_, ?_⟩, fun j => ?_, ⟨?_, ?_⟩, fun w => ?_, fun w => ?_, fun x j w => ?_, ⟨fun x j w => ?_, fun x j y1 y2 y3 => ?_⟩⟩
        · rw [if_neg (by decide), if_neg c1, e_X5_claimShoals_149, if_neg (by decide), if_pos c2, xg_pos (by omega), nxt, n3]
        · rw [if_pos c2, e_X12_claim_48, if_neg c1]
        · exact H1.1.fr (fun x j w => zup_ne (by omega))
        · exact H1.2.1.fr (fun x j w => zup_ne (by unfold nqj at w; omega))
        · unfold dN
          rw [zup_at, zup_at, zup_ne (show ¬ (130 = 130 ∧ 6 = 7) by omega), zup_ne (show ¬ (130 = 130 ∧ 14 = 7) by omega), zup_ne (show ¬ (130 = 130 ∧ 13 = 7) by omega), zup_ne (show ¬ (35 = 35 ∧ 34 = 49) by omega), zup_ne (show ¬ (35 = 35 ∧ 50 = 49) by omega), zup_ne (show ¬ (35 = 35 ∧ 51 = 49) by omega)]
          exact ⟨n1, n2, rfl, o1, n5, n6, n7, n8⟩
        · exact H1.2.2.2.1.fr (fun x j w => zup_ne (by omega)) (fun x j w => zup_ne (by omega))
        · exact H1.2.2.2.2.fr (by omega) (Nat.le_refl _) (fun x j w => zup_ne (by omega)) (fun x j w => zup_ne (by omega))
        · rw [zup_ne (by omega)]; exact c8
        · rw [zup_ne (by omega)]; exact c6
        · rw [zup_ne (by omega)]; exact e14 j
        · rw [zup_ne (by omega)]; exact e34
        · rw [zup_ne (by omega)]; exact e50
        · rw [zup_ne (by omega), zup_ne (by omega), c9, e21, w]
        · rw [zup_ne (by omega)]; exact k22 w
        · rw [zup_ne (by omega)]; exact fc1 x j w
        · rw [zup_ne (by omega)]; exact fr1.1 x j w
        · rw [zup_ne (by omega)]; exact fr1.2 x j y1 y2 y3
      · refine ⟨h1, g1, eC 1 _ ?_, eR _ ?_, same⟩
        · rw [if_neg (by decide), if_neg c1, e_X5_claimShoals_149, if_neg (by decide), if_neg c2, xg_pos (by omega), nxt]
        · rw [if_neg c2, e_X12_claim_48, if_neg c1, z49]
end
section
/-! claims of one shoal and of all -/
theorem selF : ∀ x : Fin 64, yari 8 (x.val : Int) (x.val : Int) = (x.val : Int) ∧ yari 8 0 (x.val : Int) = (x.val : Int) := by decide +kernel
theorem sel_e {x : Int} (hx : 0 ≤ x ∧ x ≤ 63) : yari 8 x x = x ∧ yari 8 0 x = x := by
  have := selF ⟨x.toNat, by omega⟩
  simp only at this
  rw [show ((x.toNat : Nat) : Int) = x by omega] at this
  exact this
theorem skip_l {a bits said en : Int} : ∀ (m i n : Nat) (h : yH), i + m ≤ 6 → (∀ j : Nat, i ≤ j → j < i + m → yari 7 (yari 6 bits (j : Int)) 1 = 0) → xl_X5_claimShoals (n + m) 59 [130, a, bits, said, en, (i : Int)] h = xl_X5_claimShoals n 59 [130, a, bits, said, en, ((i + m : Nat) : Int)] h := by
  intro m
  induction m with
  | zero => intro i n h e1 e2; rfl
  | succ m ih =>
    intro i n h e1 e2
    rw [show n + (m + 1) = (n + m) + 1 by omega, e_X5_claimShoals_59, if_pos (by omega), if_pos (e2 i (Nat.le_refl _) (by omega)), xg_pos (by omega), show (i : Int) + 1 = ((i + 1 : Nat) : Int) by omega, ih (i + 1) n h (by omega) (fun j h1 h2 => e2 j (by omega) (by omega)), show i + 1 + m = i + (m + 1) by omega]
theorem end_59 {a bits said en : Int} {n : Nat} {h : yH} : xl_X5_claimShoals (n + 1) 59 [130, a, bits, said, en, ((6 : Nat) : Int)] h = some (0, h) := by
  rw [e_X5_claimShoals_59, if_neg (by omega)]
theorem one_bit {i j : Nat} (hi : i < 6) (hj : j < 6) : (j ≠ i → yari 7 (yari 6 (yari 5 1 (i : Int)) (j : Int)) 1 = 0) ∧ (j = i → ¬ yari 7 (yari 6 (yari 5 1 (i : Int)) (j : Int)) 1 = 0) := by
  obtain ⟨s1, s2, s3, s4⟩ := shF ⟨i, hi⟩
  have s5 := s4 ⟨j, hj⟩
  simp only at s1 s5
  have q := (bit_b s1).2 j hj
  refine ⟨fun w => ?_, fun w => ?_⟩
  · rcases bit_01 (yari 6 (yari 5 1 (i : Int)) (j : Int)) with e | e
    · exact e
    · rw [q, s5] at e
      exact absurd (of_decide_eq_true e) w
  · rw [decide_eq_true w] at s5
    rw [q.mpr s5]
    decide
theorem claim1 {b e s dd a i kk n m S q c : Nat} {t d p : Nat → Int} {K said : Int} {h g : yH} (H : dR b e s dd t d K S q c p h g) (hT : dT t d) (hn : 20 ≤ n) (hm : 20 ≤ m) (ha : (a : Int) < t 6) (hi : i < S) (h14 : 0 < g 14 i) (hsd : 0 ≤ said ∧ said ≤ 20) (hk : g 35 34 = (kk : Int)) (hk30 : kk < 30) (h8 : h 130 8 = hrs (bU t p) a) (hq : q ≤ 1000) :
    ∃ h2 g2, xl_X5_claimShoals n 59 [130, (a : Int), yari 5 1 (i : Int), said, (if said < lawV t a 0 then 0 else 1), 0] h = some (0, h2) ∧ f_X12_claim m [35, (kk : Int), (a : Int), (i : Int), said] g = some (0, g2) ∧ clR b e s dd t d K S q c p a kk h g h2 g2 := by
  have S6 : S ≤ 6 := H.2.2.2.1.1
  obtain ⟨n, rfl⟩ : ∃ n', n = ((n' + 1 + (5 - i)) + 1) + i := ⟨n - 7, by omega⟩
  obtain ⟨h2, g2, c1, c2, c3⟩ := claim2 (n := n + 1 + (5 - i)) (m := m) (bits := yari 5 1 (i : Int)) H hT (by omega) hm ha hi h14 hsd hk hk30 h8 ((one_bit (by omega) (by omega)).2 rfl) hq
  refine ⟨h2, g2, ?_, c2, c3⟩
  have s1 := skip_l (a := (a : Int)) (bits := yari 5 1 (i : Int)) (said := said) (en := if said < lawV t a 0 then 0 else 1) i 0 (n + 1 + (5 - i) + 1) h (by omega) (fun j h1 h2 => (one_bit (by omega) (by omega)).1 (by omega))
  rw [show ((0 : Nat) : Int) = 0 from rfl, Nat.zero_add] at s1
  have s2 := skip_l (a := (a : Int)) (bits := yari 5 1 (i : Int)) (said := said) (en := if said < lawV t a 0 then 0 else 1) (5 - i) (i + 1) (n + 1) h2 (by omega) (fun j h1 h2 => (one_bit (by omega) (by omega)).1 (by omega))
  rw [show i + 1 + (5 - i) = 6 by omega] at s2
  rw [s1, c1, s2, end_59]
/-- what claims of all shoals keep -/
def caR (b e s dd : Nat) (t d : Nat → Int) (K : Int) (S q c : Nat) (p : Nat → Int) (a kk : Nat) (bits : Int) (h g : yH) : Prop :=
  dR b e s dd t d K S q c p h g ∧ (h 130 8 = hrs (bU t p) a ∧ h 131 6 = bits) ∧ g 35 34 = (kk : Int) ∧ h 130 9 = g 21 kk ∧ (K < 1 → g 22 kk = hrs (bU t p) a)
theorem claimA_l {b e s dd a kk S c : Nat} {t d p : Nat → Int} {K said bits x2 : Int} (hT : dT t d) (ha : (a : Int) < t 6) (hsd : 0 ≤ said ∧ said ≤ 20) (hk30 : kk < 30) : ∀ (mm i n m q : Nat) (h g : yH), mm + i = 6 → mm + 10 ≤ n → mm + 22 ≤ m → q + mm ≤ 1000 → caR b e s dd t d K S q c p a kk bits h g →
    ∃ h2 g2, xl_X5_claimShoals n 59 [130, (a : Int), bits, said, (if said < lawV t a 0 then 0 else 1), (i : Int)] h = some (0, h2) ∧ xl_X12_does m 182 [35, (kk : Int), x2, (a : Int), said, ((min i S : Nat) : Int)] g = some (1, g2) ∧ caR b e s dd t d K S (q + mm) c p a kk bits h2 g2 ∧ g2 35 50 = g 35 50 ∧ frC h h2 ∧ frR kk g g2 := by
  intro mm
  induction mm with
  | zero =>
    intro i n m q h g e1 e2 e3 e4 H
    have S6 : S ≤ 6 := H.1.2.2.2.1.1
    obtain ⟨n, rfl⟩ : ∃ n', n = n' + 1 := ⟨n - 1, by omega⟩
    obtain ⟨m, rfl⟩ : ∃ m', m = m' + 1 := ⟨m - 1, by omega⟩
    refine ⟨h, g, ?_, ?_, H, rfl, frC.r, frR.r⟩
    · rw [show i = 6 by omega, end_59]
    · rw [show min i S = S by omega, e_X12_does_182, H.1.2.2.2.1.2.2.1, if_neg (by omega)]
  | succ mm ih =>
    intro i n m q h g e1 e2 e3 e4 H
    obtain ⟨S6, k2, k3, k4, k5⟩ := id H.1.2.2.2.1
    obtain ⟨b1, b2, b3⟩ := k5 i (by omega)
    obtain ⟨-, ⟨h8, h6⟩, hk, h9, h22⟩ := id H
    obtain ⟨n, rfl⟩ : ∃ n', n = n' + 1 := ⟨n - 1, by omega⟩
    have qb := (bit_b k4).2 i (by omega)
    rw [h6] at qb b1 k4
    by_cases cs6 : i < S
    · obtain ⟨m, rfl⟩ : ∃ m', m = m' + 1 := ⟨m - 1, by omega⟩
      by_cases c14 : 0 < g 14 i
      · have hbit : ¬ yari 7 (yari 6 bits (i : Int)) 1 = 0 := by
          rw [qb.mpr (b1.mpr ⟨cs6, c14⟩)]
          decide
        obtain ⟨h1, g1, r1, r2, r3⟩ := claim2 (n := n) (m := m) (bits := bits) H.1 hT (by omega) (by omega) ha cs6 c14 hsd hk hk30 h8 hbit (by omega)
        obtain ⟨d1, ⟨d2, d3⟩, d4, ⟨d5, d6⟩, d7, d8, d9, d10⟩ := r3
        have H1 : caR b e s dd t d K S (q + 1) c p a kk bits h1 g1 := ⟨d1, ⟨d2.trans h8, d3.trans h6⟩, d5.trans hk, d7 h9, fun w => by rw [d8 w, h22 w, (sel_e (hrs_b (H.1.W hT))).1]⟩
        obtain ⟨h2, g2, f1, f2, f3, f4, f5, f6⟩ := ih (i + 1) n m (q + 1) h1 g1 (by omega) (by omega) (by omega) (by omega) H1
        rw [show min (i + 1) S = i + 1 by omega] at f2
        refine ⟨h2, g2, r1.trans f1, ?_, ?_, f4.trans d6, d9.t f5, d10.t f6⟩
        · rw [show min i S = i by omega, e_X12_does_182, k3, if_pos (show (i : Int) < (S : Int) by omega), xg_pos (H.1.Q (j := 37) (k := 14) (by decide)), xg_pos (by omega), Int.toNat_natCast i, if_pos c14, r2, xb_some, xg_pos (by omega), show (i : Int) + 1 = ((i + 1 : Nat) : Int) by omega]
          exact f2
        · rw [show q + (mm + 1) = q + 1 + mm by omega]
          exact f3
      · have hbit : yari 7 (yari 6 bits (i : Int)) 1 = 0 := (bit_01 _).resolve_right (fun w => c14 (b1.mp (qb.mp w)).2)
        obtain ⟨h2, g2, f1, f2, f3, f4, f5, f6⟩ := ih (i + 1) n m q h g (by omega) (by omega) (by omega) (by omega) H
        rw [show min (i + 1) S = i + 1 by omega] at f2
        refine ⟨h2, g2, ?_, ?_, ⟨f3.1.fr (by omega) (Nat.le_refl _) (fun _ _ _ => rfl) (fun _ _ _ => rfl), f3.2⟩, f4, f5, f6⟩
        · rw [e_X5_claimShoals_59, if_pos (show (i : Int) < 6 by omega), if_pos hbit, xg_pos (by omega), show (i : Int) + 1 = ((i + 1 : Nat) : Int) by omega]
          exact f1
        · rw [show min i S = i by omega, e_X12_does_182, k3, if_pos (show (i : Int) < (S : Int) by omega), xg_pos (H.1.Q (j := 37) (k := 14) (by decide)), xg_pos (by omega), Int.toNat_natCast i, if_neg c14, xg_pos (by omega), show (i : Int) + 1 = ((i + 1 : Nat) : Int) by omega]
          exact f2
    · have hbit : yari 7 (yari 6 bits (i : Int)) 1 = 0 := (bit_01 _).resolve_right (fun w => cs6 (b1.mp (qb.mp w)).1)
      obtain ⟨h2, g2, f1, f2, f3, f4, f5, f6⟩ := ih (i + 1) n m q h g (by omega) (by omega) (by omega) (by omega) H
      rw [show min (i + 1) S = min i S by omega] at f2
      refine ⟨h2, g2, ?_, f2, ⟨f3.1.fr (by omega) (Nat.le_refl _) (fun _ _ _ => rfl) (fun _ _ _ => rfl), f3.2⟩, f4, f5, f6⟩
      rw [e_X5_claimShoals_59, if_pos (show (i : Int) < 6 by omega), if_pos hbit, xg_pos (by omega), show (i : Int) + 1 = ((i + 1 : Nat) : Int) by omega]
      exact f1
/-- the class begins a claim: who hears, nothing claimed yet -/
theorem claimC_e {b e s dd a n S q c : Nat} {t d p : Nat → Int} {K said bits : Int} {h g : yH} (H : dR b e s dd t d K S q c p h g) (hT : dT t d) (hn : 7 ≤ n) (ha : (a : Int) < t 6) : f_X5_claimShoals n [130, (a : Int), bits, said] h = xl_X5_claimShoals n 59 [130, (a : Int), bits, said, (if said < lawV t a 0 then 0 else 1), 0] (zup (zup h 130 8 (hrs (bU t p) a)) 130 9 0) := by
  obtain ⟨w1, w2, w3, w4, w5⟩ := H.bp hT ha
  obtain ⟨-, k1, k2, k3, k4, k5, -⟩ := id H.1
  have e6 : ((b : Int) + 6).toNat = b + 6 := by omega
  have H1 : dC b e t d (zup (zup h 130 8 (hrs (bU t p) a)) 130 9 0) := H.1.fr (fun x j w => by rw [zup_ne (by omega), zup_ne (by omega)])
  have l0 := lawC_e (n := n) (w := 0) H1.2.2.2.2.1 H1.2.2.2.2.2.1 hT.1 ha (by decide)
  rw [show ((0 : Nat) : Int) = 0 from rfl] at l0
  rw [e_X5_claimShoals, k2, Int.toNat_natCast b, xg_pos (by omega), xg_pos k1.2.1, xg_pos (by omega), xg_pos (by omega), xg_pos k5.2.2.2.2.2.1, xg_pos (by omega), xg_pos k1.2.1, Int.toNat_natCast a, e6, H.hp a ha, (k4.2.2.2.2.2.2.2.2.2.2 a ha).2.1, hearersR_e hn H.1 (H.W hT) H.hp ha w3, xb_some, k2, xg_pos (by omega), l0, xb_some]
  by_cases c0 : said < lawV t a 0
  · rw [if_pos c0, if_pos c0]
  · rw [if_neg c0, if_neg c0]
end
section
/-! rowing, splitting, netting on both sides -/
theorem there2 {b e s dd : Nat} {t d : Nat → Int} {K : Int} {S q c : Nat} {p : Nat → Int} {h g : yH} {n m i : Nat} (H : dR b e s dd t d K S q c p h g) (hi : i < 6) :
    f_X7_isThere n [131, (i : Int)] h = some (if i < S ∧ 0 < g 14 i then 1 else 0, h) ∧ f_X12_isThere m [35, (i : Int)] g = some (if i < S ∧ 0 < g 14 i then 1 else 0, g) := by
  obtain ⟨S6, k2, k3, k4, k5⟩ := id H.2.2.2.1
  obtain ⟨b1, b2, b3⟩ := k5 i hi
  have qb := (bit_b k4).2 i hi
  constructor
  · rw [e_X7_isThere, if_neg (by omega), if_pos (by omega)]
    by_cases w : i < S ∧ 0 < g 14 i
    · rw [if_pos w, if_pos (qb.mpr (b1.mpr w))]
    · rw [if_neg w, if_neg (fun v => w (b1.mp (qb.mp v)))]
  · rw [e_X12_isThere, k3, xg_pos (by omega)]
    by_cases w : i < S
    · rw [in_t (by omega), xb_some, if_neg (by decide), xg_pos (H.Q (j := 37) (k := 14) (by decide)), xg_pos (by omega), Int.toNat_natCast]
      by_cases w2 : 0 < g 14 i
      · rw [if_pos w2, if_pos ⟨w, w2⟩]
      · rw [if_neg w2, if_neg (fun v => w2 v.2)]
    · rw [in_f (by omega), xb_some, if_pos rfl, if_neg (fun v => w v.1)]
theorem isBoatR_e {b e s dd : Nat} {t d : Nat → Int} {K x : Int} {S q c : Nat} {p : Nat → Int} {h g : yH} {m : Nat} (H : dR b e s dd t d K S q c p h g) (hT : dT t d) : f_X12_isBoat m [35, x] g = some (if 0 ≤ x ∧ x < t 6 then 1 else 0, g) := by
  have w6 := hT.1.wd.2.2.2.2
  have h28 : g 35 28 = t 6 := by
    rw [H.2.1.1.2.2.2.2.2.2.1, bU_n (j := 6) (by omega)]
  rw [e_X12_isBoat, h28, xg_pos (by omega)]
  by_cases w : 0 ≤ x ∧ x < t 6
  · rw [in_t (by omega), xb_some, xg_pos (by decide), if_pos w]
  · rw [in_f (by omega), xb_some, xg_pos (by decide), if_neg w]
/-- a boat stands elsewhere -/
theorem dR.row {b e s dd : Nat} {t d : Nat → Int} {K : Int} {S q c : Nat} {p : Nat → Int} {h g : yH} {a : Nat} {x : Int} (H : dR b e s dd t d K S q c p h g) (ha : a < 6) (hx : 0 ≤ x ∧ x ≤ 63) (hx2 : x < t 0 * t 1) : dR b e s dd t d K S q c (tU p a x) (zup h 138 a x) (zup g 10 a x) := by
  obtain ⟨k1, ⟨k2, ⟨k6, k7⟩, k10, k8⟩, k3, k4, k5, k9⟩ := H
  refine ⟨k1.fr (fun x j w => zup_ne (by omega)), ⟨?_, ⟨k6, by rw [zup_ne (by omega)]; exact k7⟩, by rw [zup_ne (by omega)]; exact k10, fun j hj => by rw [zup_ne (by omega)]; exact k8 j hj⟩, ?_, k4.fr (fun x j w => zup_ne (by omega)) (fun x j w => zup_ne (by omega)), ?_, fun i hi => ?_⟩
  · rw [bU_up ha]
    exact k2.cell ha
  · unfold dN
    rw [zup_ne (by omega), zup_ne (by omega), zup_ne (by omega), zup_ne (by omega), zup_ne (by omega), zup_ne (by omega), zup_ne (by omega), zup_ne (by omega)]
    exact k3
  · intro i hi
    by_cases w : i = a
    · rw [w, tU_at]; exact hx
    · rw [tU_ne w]; exact k5 i hi
  · obtain ⟨⟨a1, a2⟩, ⟨a3, a4, a5⟩, a6, a7, a8⟩ := k9 i hi
    rw [zup_ne (show ¬ (139 = 138 ∧ i = a) by omega), zup_ne (show ¬ (140 = 138 ∧ i = a) by omega), zup_ne (show ¬ (17 = 10 ∧ i = a) by omega), zup_ne (show ¬ (18 = 10 ∧ i = a) by omega)]
    refine ⟨?_, ⟨a3, a4, a5⟩, a6, a7, a8⟩
    by_cases w : i = a
    · rw [w, zup_at, tU_at]; exact ⟨rfl, hx2⟩
    · rw [zup_ne (by omega), tU_ne w]; exact ⟨a1, a2⟩
theorem row2 {b e s dd : Nat} {t d : Nat → Int} {K : Int} {S q c : Nat} {p : Nat → Int} {h g : yH} {n m a : Nat} {sd : Int} (H : dR b e s dd t d K S q c p h g) (hT : dT t d) (ha : (a : Int) < t 6) (hs : 0 ≤ sd ∧ sd ≤ 3) :
    f_X5_rowBoat n [130, (a : Int), sd] h = some (if besV (t 0) (t 1) (p a) sd = -1 then 0 else 1, if besV (t 0) (t 1) (p a) sd = -1 then h else zup h 138 a (besV (t 0) (t 1) (p a) sd)) ∧ f_X12_beside m [35, g 10 a, sd] g = some (besV (t 0) (t 1) (p a) sd, g) ∧ (besV (t 0) (t 1) (p a) sd = -1 ∨ ((0 ≤ besV (t 0) (t 1) (p a) sd ∧ besV (t 0) (t 1) (p a) sd ≤ 63) ∧ besV (t 0) (t 1) (p a) sd < t 0 * t 1)) := by
  obtain ⟨w1, w2, w3, w4, w5⟩ := H.bp hT ha
  obtain ⟨-, k1, k2, k3, k4, k5, -⟩ := id H.1
  have z0 : bU t p 0 = t 0 := bU_n (by omega)
  have z1 : bU t p 1 = t 1 := bU_n (by omega)
  have v := H.2.1.1
  refine ⟨?_, ?_, ?_⟩
  · rw [e_X5_rowBoat, k2, xg_pos (by omega), xg_pos k1.2.1, xg_pos (by omega), Int.toNat_natCast, H.hp a ha, besC_e k4.1 k4.2.1 hT.1.1 hT.1.2.1 ⟨w4.1, w5⟩, xb_some]
    by_cases w : besV (t 0) (t 1) (p a) sd = -1
    · rw [if_pos w, if_pos w, if_pos w]
    · rw [if_neg w, if_neg w, if_neg w, xg_pos k1.2.1, xg_pos (by omega)]
  · rw [w1]
    exact besR_e (v.2.2.1.trans z0) (v.2.2.2.1.trans z1) hT.1.1 hT.1.2.1 ⟨w4.1, w5⟩ hs
  · rcases besV_b (s := sd) hT.1.1 hT.1.2.1 ⟨w4.1, w5⟩ with w | w
    · exact Or.inl w
    · exact Or.inr ⟨pW_63 hT.1.1 hT.1.2.1 w, w.2⟩
theorem halfF : ∀ f : Fin 100, 2 ≤ f.val → 1 ≤ yari 3 (f.val : Int) 2 ∧ yari 3 (f.val : Int) 2 ≤ (f.val : Int) - 1 := by decide +kernel
theorem half_b {f : Int} (h : 2 ≤ f ∧ f ≤ 99) : 1 ≤ yari 3 f 2 ∧ yari 3 f 2 ≤ f - 1 := by
  have := halfF ⟨f.toNat, by omega⟩ (by simp only; omega)
  simp only at this
  rw [show ((f.toNat : Nat) : Int) = f by omega] at this
  exact this
theorem backF : ∀ f : Fin 4, 0 ≤ yari 4 ((f.val : Int) + 2) 4 ∧ yari 4 ((f.val : Int) + 2) 4 ≤ 4 := by decide +kernel
def bck (x : Int) : Int := if x = 4 then 4 else yari 4 (x + 2) 4
theorem bck_b {x : Int} (h : 0 ≤ x ∧ x ≤ 4) : 0 ≤ bck x ∧ bck x ≤ 4 := by
  unfold bck
  by_cases c : x = 4
  · rw [if_pos c]; decide
  · rw [if_neg c]
    have := backF ⟨x.toNat, by omega⟩
    simp only at this
    rw [show ((x.toNat : Nat) : Int) = x by omega] at this
    exact this
/-- a shoal is split -/
def spG (S i : Nat) (x y : Int) (g : yH) : yH := zup (zup (zup (zup (zup g 14 i (g 14 i - x)) 13 S (g 13 i)) 14 S x) 15 S y) 35 35 ((S : Int) + 1)
theorem spG_ne {S i : Nat} {x y : Int} {g : yH} {a j : Nat} (w : ¬ (a = 14 ∧ j = i) ∧ ¬ ((a = 13 ∨ a = 14 ∨ a = 15) ∧ j = S) ∧ ¬ (a = 35 ∧ j = 35)) : spG S i x y g a j = g a j := by
  unfold spG
  rw [zup_ne (by omega), zup_ne (by omega), zup_ne (by omega), zup_ne (by omega), zup_ne (by omega)]
theorem dS.split {M B : Int} {S i : Nat} {x y : Int} {h g : yH} (H : dS M B S h g) (hi : i < S) (hS : S < 6) (h14 : 2 ≤ g 14 i) (hx : 1 ≤ x ∧ x ≤ g 14 i - 1) (hy : 0 ≤ y ∧ y ≤ 4) : dS M B (S + 1) (adH S (h 132 i) x y (zup h 133 i (h 133 i - x))) (spG S i x y g) := by
  obtain ⟨k1, k2, k3, k4, k5⟩ := H
  obtain ⟨v1, v2, v3, v4, v5, v6, v7, v8⟩ := adH_v (S := S) (c := h 132 i) (f := x) (d := y) (h := zup h 133 i (h 133 i - x))
  have e6 : (zup h 133 i (h 133 i - x)) 131 6 = h 131 6 := zup_ne (by omega)
  obtain ⟨o1, o2⟩ := bit_add k4 hS
  obtain ⟨c1, c2, -⟩ := k5 i (by omega)
  obtain ⟨⟨d1, d2, d3, d4, d5, d6⟩, d7⟩ := c2 hi
  obtain ⟨f1, f2, f3, f4, f5, f6⟩ := d7 (by omega)
  rw [e6] at v2
  have g35 : spG S i x y g 35 35 = (S : Int) + 1 := zup_at _ _ _ _
  have gS : spG S i x y g 13 S = g 13 i ∧ spG S i x y g 14 S = x ∧ spG S i x y g 15 S = y := by
    unfold spG
    refine ⟨?_, ?_, ?_⟩
    · rw [zup_ne (by omega), zup_ne (by omega), zup_ne (by omega), zup_at]
    · rw [zup_ne (by omega), zup_ne (by omega), zup_at]
    · rw [zup_ne (by omega), zup_at]
  have gi : spG S i x y g 14 i = g 14 i - x := by
    unfold spG
    rw [zup_ne (by omega), zup_ne (by omega), zup_ne (by omega), zup_ne (by omega), zup_at]
  refine ⟨by omega, by rw [v1]; omega, by rw [g35]; omega, by rw [v2]; exact o1, fun j hj => ?_⟩
  obtain ⟨a1, a2, a3⟩ := k5 j hj
  have b16 : spG S i x y g 16 j = g 16 j := spG_ne (by omega)
  have b19 : spG S i x y g 19 j = g 19 j := spG_ne (by omega)
  have b20 : spG S i x y g 20 j = g 20 j := spG_ne (by omega)
  by_cases q : j = S
  · subst q
    obtain ⟨n1, n2, n3⟩ := a3 (Nat.le_refl _)
    refine ⟨?_, fun _ => ?_, fun w => by omega⟩
    · rw [v2, o2 j hj, gS.2.1]
      exact ⟨fun _ => ⟨by omega, by omega⟩, fun _ => Or.inr rfl⟩
    · unfold sI
      rw [gS.1, gS.2.1, gS.2.2, b16, b19, b20, n1, n2, n3, v3, v4, v5, v6, v7, v8, f1]
      have hB : 0 ≤ B := by omega
      refine ⟨⟨d1, ⟨by omega, by omega⟩, hy, ⟨by decide, by decide⟩, ⟨by decide, by decide⟩, by decide, by omega⟩, fun _ => ⟨rfl, rfl, rfl, rfl, rfl, rfl⟩⟩
  · have b13 : spG S i x y g 13 j = g 13 j := spG_ne (by omega)
    have b15 : spG S i x y g 15 j = g 15 j := spG_ne (by omega)
    have cc : ∀ z, z ≠ 133 → 132 ≤ z → adH S (h 132 i) x y (zup h 133 i (h 133 i - x)) z j = h z j := fun z w w2 => by rw [adH_fr (by omega), zup_ne (by omega)]
    by_cases r : j = i
    · subst r
      refine ⟨?_, fun _ => ?_, fun w => by omega⟩
      · rw [v2, o2 j hj, gi, a1]
        constructor
        · intro _; exact ⟨by omega, by omega⟩
        · intro _; exact Or.inl ⟨hi, by omega⟩
      · unfold sI
        rw [b13, gi, b15, b16, b19, b20, cc 132 (by omega) (by omega), cc 134 (by omega) (by omega), cc 135 (by omega) (by omega), cc 136 (by omega) (by omega), cc 137 (by omega) (by omega), adH_fr (show ¬ (133 = 131 ∧ (j = 6 ∨ j = 7)) ∧ ¬ ((133 = 132 ∨ 133 = 133 ∨ 133 = 134 ∨ 133 = 135 ∨ 133 = 136 ∨ 133 = 137) ∧ j = S) by omega), zup_at, f2]
        exact ⟨⟨d1, ⟨by omega, by omega⟩, d3, d4, d5, d6⟩, fun _ => ⟨f1, rfl, f3, f4, f5, f6⟩⟩
    · have b14 : spG S i x y g 14 j = g 14 j := spG_ne (by omega)
      refine ⟨?_, fun w => ?_, fun w => ?_⟩
      · rw [v2, o2 j hj, b14, a1]
        constructor
        · rintro (u | u)
          · exact ⟨by omega, u.2⟩
          · omega
        · intro u; exact Or.inl ⟨by omega, u.2⟩
      · exact (a2 (by omega)).fr ⟨b13, b14, b15, b19, b16, b20⟩ ⟨cc 132 (by omega) (by omega), by rw [adH_fr (by omega), zup_ne (by omega)], cc 134 (by omega) (by omega), cc 135 (by omega) (by omega), cc 136 (by omega) (by omega), cc 137 (by omega) (by omega)⟩
      · rw [b20, b19, b16]
        exact a3 (by omega)
theorem dR.split {b e s dd : Nat} {t d : Nat → Int} {K : Int} {S q c : Nat} {p : Nat → Int} {h g : yH} {i : Nat} {x y : Int} (H : dR b e s dd t d K S q c p h g) (hi : i < S) (hS : S < 6) (h14 : 2 ≤ g 14 i) (hx : 1 ≤ x ∧ x ≤ g 14 i - 1) (hy : 0 ≤ y ∧ y ≤ 4) : dR b e s dd t d K (S + 1) q c p (adH S (h 132 i) x y (zup h 133 i (h 133 i - x))) (spG S i x y g) := by
  obtain ⟨k1, k2, k3, k4, k5⟩ := H
  have fh : ∀ a j, ¬ (a = 131 ∧ (j = 6 ∨ j = 7)) → ¬ (132 ≤ a ∧ a ≤ 137) → adH S (h 132 i) x y (zup h 133 i (h 133 i - x)) a j = h a j := fun a j w1 w2 => by rw [adH_fr (by omega), zup_ne (by omega)]
  have fg : ∀ a j, ¬ (13 ≤ a ∧ a ≤ 15) → ¬ (a = 35 ∧ j = 35) → spG S i x y g a j = g a j := fun a j w1 w2 => spG_ne (by omega)
  refine ⟨k1.fr (fun a j w => fh a j (by omega) (by omega)), k2.fr (fun a j w => fg a j (by omega) (by unfold nqj at w; omega)), ?_, k4.split hi hS h14 hx hy, k5.fr (Nat.le_refl _) (Nat.le_refl _) (fun a j w => fh a j (by omega) (by omega)) (fun a j w => fg a j (by omega) (by omega))⟩
  unfold dN
  rw [fh _ _ (by omega) (by omega), fh _ _ (by omega) (by omega), fh _ _ (by omega) (by omega), fh _ _ (by omega) (by omega), fg _ _ (by omega) (by omega), fg _ _ (by omega) (by omega), fg _ _ (by omega) (by omega), fg _ _ (by omega) (by omega)]
  exact k3
end
section
/-! netting on both sides -/
theorem split2 {b e s dd : Nat} {t d : Nat → Int} {K : Int} {S q c : Nat} {p : Nat → Int} {h g : yH} {n m a i : Nat} (H : dR b e s dd t d K S q c p h g) (hT : dT t d) (ha : (a : Int) < t 6) (hi : i < S) (h14 : 0 < g 14 i) :
    ∃ v h2 g2 S2, f_X5_splitShoal n [130, (a : Int), (i : Int)] h = some (v, h2) ∧ f_X12_splits m [35, (a : Int), (i : Int)] g = some (v, g2) ∧ (v = 0 ∨ v = 1) ∧ dR b e s dd t d K S2 q c p h2 g2 ∧ (g2 35 34 = g 35 34 ∧ g2 35 50 = g 35 50) ∧ frC h h2 ∧ (∀ x j, x ≤ 12 ∨ (16 ≤ x ∧ x ≤ 34) → g2 x j = g x j) := by
  obtain ⟨S6, k2, k3, k4, k5⟩ := id H.2.2.2.1
  obtain ⟨-, i2, -⟩ := k5 i (by omega)
  obtain ⟨⟨d1, d2, d3, d4, d5, d6⟩, d7⟩ := i2 hi
  obtain ⟨f1, f2, f3, f4, f5, f6⟩ := d7 h14
  obtain ⟨n1, -⟩ := id H.2.2.1
  obtain ⟨p1, p2, p3, p4, p5, p6, p7, p8, p9, p10, p11⟩ := id H.1.2.1
  have hq := H.2.1.1.1.2.2.2
  obtain ⟨t1, t2⟩ := there2 (n := n) (m := m) H (show i < 6 by omega)
  rw [if_pos ⟨hi, h14⟩] at t1 t2
  have no : f_X5_splitShoal n [130, (a : Int), (i : Int)] h = some (0, h) → f_X12_splits m [35, (a : Int), (i : Int)] g = some (0, g) → ∃ v h2 g2 S2, f_X5_splitShoal n [130, (a : Int), (i : Int)] h = some (v, h2) ∧ f_X12_splits m [35, (a : Int), (i : Int)] g = some (v, g2) ∧ (v = 0 ∨ v = 1) ∧ dR b e s dd t d K S2 q c p h2 g2 ∧ (g2 35 34 = g 35 34 ∧ g2 35 50 = g 35 50) ∧ frC h h2 ∧ (∀ x j, x ≤ 12 ∨ (16 ≤ x ∧ x ≤ 34) → g2 x j = g x j) := fun e1 e2 => ⟨0, h, g, S, e1, e2, Or.inl rfl, H, ⟨rfl, rfl⟩, frC.r, fun _ _ _ => rfl⟩
  have Q : ∀ {j : Nat} {k : Int}, (j, k) ∈ rQL → g 35 j = k := fun hm => H.Q hm
  by_cases c1 : hdN (g 16 i) (g 20 i) (g 35 34) = (a : Int)
  · by_cases c2 : g 14 i < 2
    · refine no ?_ ?_
      · rw [e_X5_splitShoal, xg_pos p1, holderAt_e H.1.2.1 (by omega), xb_some, f5, f6, n1, if_pos c1, xg_pos p1, e_X7_canSplit, xg_pos p7, xg_pos (by omega), Int.toNat_natCast i, f2, if_pos c2, xb_some, if_pos rfl]
      · rw [e_X12_splits, t2, xb_some, if_neg (by decide), holderNow_e hq (by omega), xb_some, if_pos c1, xg_pos (Q (j := 37) (k := 14) (by decide)), xg_pos (by omega), Int.toNat_natCast i, if_pos c2]
    · by_cases c3 : S < 6
      · have hb := half_b (f := g 14 i) (by omega)
        have kb := bck_b d3
        have R := H.split (x := yari 3 (g 14 i) 2) (y := bck (g 15 i)) hi c3 (by omega) hb kb
        rw [f2] at R
        have eC : f_X7_halve n [131, (i : Int)] h = some (0, adH S (h 132 i) (yari 3 (g 14 i) 2) (bck (g 15 i)) (zup h 133 i (g 14 i - yari 3 (g 14 i) 2))) := by
          have key : ∀ y0 : Int, xq_X7_halve_33 n [131, (i : Int), yari 3 (g 14 i) 2, y0] h = some (0, adH S (h 132 i) (yari 3 (g 14 i) 2) y0 (zup h 133 i (g 14 i - yari 3 (g 14 i) 2))) := by
            intro y0
            rw [e_X7_halve_33, xg_pos p7, xg_pos (by omega), Int.toNat_natCast i, f2, xg_pos (by omega), xg_pos (by omega), xg_pos p6, xg_pos (by omega), add_e (S := S) (H.1.2.1.fr (fun x j w => zup_ne (by omega))) (by rw [zup_ne (by omega)]; exact k2) c3, xb_some]
          rw [e_X7_halve, xg_pos p7, xg_pos (by omega), xg_pos p8, xg_pos (by omega), Int.toNat_natCast i, f3, f2]
          unfold bck
          by_cases c4 : g 15 i = 4
          · rw [if_pos c4, if_pos c4, key]
          · rw [if_neg c4, if_neg c4, xg_pos p8, xg_pos (by omega), xg_pos (by omega), key]
        refine ⟨1, adH S (h 132 i) (yari 3 (g 14 i) 2) (bck (g 15 i)) (zup h 133 i (g 14 i - yari 3 (g 14 i) 2)), spG S i (yari 3 (g 14 i) 2) (bck (g 15 i)) g, S + 1, ?_, ?_, Or.inr rfl, R, ⟨spG_ne (by omega), spG_ne (by omega)⟩, fun x j w => by rw [adH_fr (by omega), zup_ne (by omega)], fun x j w => spG_ne (by omega)⟩
        · rw [e_X5_splitShoal, xg_pos p1, holderAt_e H.1.2.1 (by omega), xb_some, f5, f6, n1, if_pos c1, xg_pos p1, e_X7_canSplit, xg_pos p7, xg_pos (by omega), Int.toNat_natCast i, f2, if_neg c2, k2, if_pos (show (S : Int) < 6 by omega), xb_some, if_neg (by decide), xg_pos p1, eC, xb_some]
        · rw [e_X12_splits, t2, xb_some, if_neg (by decide), holderNow_e hq (by omega), xb_some, if_pos c1, xg_pos (Q (j := 37) (k := 14) (by decide)), xg_pos (by omega), Int.toNat_natCast i, if_neg c2, k3, if_neg (show ¬ (S : Int) = 6 by omega), xg_pos (Q (j := 37) (k := 14) (by decide)), xg_pos (by omega), xg_pos (Q (j := 37) (k := 14) (by decide)), xg_pos (by omega), xg_pos (by omega), xg_pos (by omega), xg_pos (Q (j := 36) (k := 13) (by decide)), xg_pos (Q (j := 36) (k := 13) (by decide)), xg_pos (by omega), xg_pos (by omega), xg_pos (Q (j := 37) (k := 14) (by decide)), xg_pos (by omega), xg_pos (Q (j := 38) (k := 15) (by decide)), xg_pos (Q (j := 38) (k := 15) (by decide)), xg_pos (by omega), Int.toNat_natCast S]
          unfold spG bck
          by_cases c4 : g 15 i = 4
          · rw [if_pos c4, if_pos c4, xg_pos (by omega), xg_pos (by omega), xg_pos (by omega)]
          · rw [if_neg c4, if_neg c4, xg_pos (Q (j := 38) (k := 15) (by decide)), xg_pos (by omega), xg_pos (by omega), xg_pos (by omega), xg_pos (by omega), xg_pos (by omega)]
      · refine no ?_ ?_
        · rw [e_X5_splitShoal, xg_pos p1, holderAt_e H.1.2.1 (by omega), xb_some, f5, f6, n1, if_pos c1, xg_pos p1, e_X7_canSplit, xg_pos p7, xg_pos (by omega), Int.toNat_natCast i, f2, if_neg c2, k2, if_neg (show ¬ (S : Int) < 6 by omega), xb_some, if_pos rfl]
        · rw [e_X12_splits, t2, xb_some, if_neg (by decide), holderNow_e hq (by omega), xb_some, if_pos c1, xg_pos (Q (j := 37) (k := 14) (by decide)), xg_pos (by omega), Int.toNat_natCast i, if_neg c2, k3, if_pos (show (S : Int) = 6 by omega)]
  · refine no ?_ ?_
    · rw [e_X5_splitShoal, xg_pos p1, holderAt_e H.1.2.1 (by omega), xb_some, f5, f6, n1, if_neg c1]
    · rw [e_X12_splits, t2, xb_some, if_neg (by decide), holderNow_e hq (by omega), xb_some, if_neg c1]
theorem mulF_b {f sy : Int} (hf : 0 ≤ f ∧ f ≤ 99) (hs : 0 ≤ sy ∧ sy ≤ 20) : 0 ≤ f * sy ∧ f * sy ≤ 1980 := by
  have a1 := Int.mul_nonneg hf.1 hs.1
  have a2 := Int.mul_le_mul hf.2 hs.2 hs.1 (show (0 : Int) ≤ 99 by decide)
  omega
theorem div_b {f sy ne : Int} (hf : 0 ≤ f ∧ f ≤ 99) (hs : 0 ≤ sy ∧ sy ≤ 20) (hn : 1 ≤ ne ∧ ne ≤ 9) : 0 ≤ yari 3 (f * sy) (sy + ne) ∧ yari 3 (f * sy) (sy + ne) ≤ f := by
  have mb := mulF_b hf hs
  unfold yari
  show 0 ≤ (Int32.ofInt (f * sy) / Int32.ofInt (sy + ne)).toInt ∧ (Int32.ofInt (f * sy) / Int32.ofInt (sy + ne)).toInt ≤ f
  have q1 := Int.ediv_nonneg mb.1 (show 0 ≤ sy + ne by omega)
  have q2 : f * sy / (sy + ne) ≤ f := Int.ediv_le_of_le_mul (by omega) (Int.mul_le_mul_of_nonneg_left (by omega) hf.1)
  rw [Int32.toInt_div, Int32.toInt_ofInt_of_le (by omega) (by omega), Int32.toInt_ofInt_of_le (by omega) (by omega), Int.tdiv_eq_ediv_of_nonneg mb.1, Int.bmod_eq_of_le (by omega) (by omega)]
  exact ⟨q1, q2⟩
/-- what another has of it -/
def shr (hol a f sy ne : Int) : Int := if hol = -1 ∨ hol = a then 0 else yari 3 (f * sy) (sy + ne)
theorem shr_b {hol a f sy ne : Int} (hf : 0 ≤ f ∧ f ≤ 99) (hs : 0 ≤ sy ∧ sy ≤ 20) (hn : 1 ≤ ne ∧ ne ≤ 9) : 0 ≤ shr hol a f sy ne ∧ shr hol a f sy ne ≤ f := by
  unfold shr
  by_cases c : hol = -1 ∨ hol = a
  · rw [if_pos c]; exact ⟨Int.le_refl _, hf.1⟩
  · rw [if_neg c]
    exact div_b hf hs hn
theorem dS.gone {M B : Int} {S i : Nat} {h g : yH} (H : dS M B S h g) (hi : i < S) : dS M B S (zup h 131 6 (clr (h 131 6) i)) (zup g 14 i 0) := by
  obtain ⟨k1, k2, k3, k4, k5⟩ := H
  obtain ⟨c1, c2⟩ := clr_b k4 (show i < 6 by omega)
  refine ⟨k1, by rw [zup_ne (by omega)]; exact k2, by rw [zup_ne (by omega)]; exact k3, by rw [zup_at]; exact c1, fun j hj => ?_⟩
  obtain ⟨a1, a2, a3⟩ := k5 j hj
  rw [zup_at, c2 j hj, zup_ne (show ¬ (20 = 14 ∧ j = i) by omega), zup_ne (show ¬ (19 = 14 ∧ j = i) by omega), zup_ne (show ¬ (16 = 14 ∧ j = i) by omega)]
  refine ⟨?_, fun w => ?_, a3⟩
  · by_cases q : j = i
    · rw [q, zup_at, decide_eq_false (fun w => w rfl), Bool.and_false]
      exact ⟨fun w => (by cases w), fun w => by omega⟩
    · rw [zup_ne (by omega), decide_eq_true q, Bool.and_true]
      exact a1
  · by_cases q : j = i
    · subst q
      obtain ⟨⟨d1, d2, d3, d4, d5, d6⟩, d7⟩ := a2 w
      unfold sI
      rw [zup_at, zup_ne (show ¬ (13 = 14 ∧ j = j) by omega), zup_ne (show ¬ (15 = 14 ∧ j = j) by omega), zup_ne (show ¬ (19 = 14 ∧ j = j) by omega), zup_ne (show ¬ (16 = 14 ∧ j = j) by omega), zup_ne (show ¬ (20 = 14 ∧ j = j) by omega)]
      exact ⟨⟨d1, ⟨by decide, by decide⟩, d3, d4, d5, d6⟩, fun w => by omega⟩
    · exact (a2 w).fr ⟨zup_ne (by omega), zup_ne (by omega), zup_ne (by omega), zup_ne (by omega), zup_ne (by omega), zup_ne (by omega)⟩ ⟨zup_ne (by omega), zup_ne (by omega), zup_ne (by omega), zup_ne (by omega), zup_ne (by omega), zup_ne (by omega)⟩
end
