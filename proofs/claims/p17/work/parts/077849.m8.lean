section
/-! bits of an int -/
def sbt (x : Int) (k : Nat) : Bool := (Int32.ofInt x).toBitVec.getLsbD k
theorem sb_s : ∀ c : Fin 32, (Int32.ofInt (c.val : Int) &&& 31).toBitVec = BitVec.ofNat 32 c.val := by decide +kernel
theorem sb_m : ∀ c : Fin 32, (BitVec.ofNat 32 c.val).smod 32 = BitVec.ofNat 32 c.val := by decide +kernel
theorem sb_a (z : Int32) : ((z &&& 1).toInt = 1 ∧ z.toBitVec.getLsbD 0 = true) ∨ ((z &&& 1).toInt = 0 ∧ z.toBitVec.getLsbD 0 = false) := by
  have e : (z &&& 1).toBitVec = z.toBitVec &&& 1#32 := rfl
  cases h : z.toBitVec.getLsbD 0 with
  | true =>
    left
    have h2 : z.toBitVec &&& 1#32 = 1#32 := by
      apply BitVec.eq_of_getLsbD_eq
      intro i hi
      by_cases q : i = 0
      · subst q
        simp [h]
      · simp [q]
    have h3 : (z &&& 1) = 1 := Int32.toBitVec_inj.mp (e.trans h2)
    rw [h3]
    exact ⟨rfl, rfl⟩
  | false =>
    right
    have h2 : z.toBitVec &&& 1#32 = 0#32 := by
      apply BitVec.eq_of_getLsbD_eq
      intro i hi
      by_cases q : i = 0
      · subst q
        rw [BitVec.getLsbD_and, h, Bool.false_and]
        simp
      · simp [q]
    have h3 : (z &&& 1) = 0 := Int32.toBitVec_inj.mp (e.trans h2)
    rw [h3]
    exact ⟨rfl, rfl⟩
theorem sb_h {x : Int} {c : Nat} (hc : c < 32) : (Int32.ofInt (yari 6 x (c : Int))).toBitVec.getLsbD 0 = sbt x c := by
  show (Int32.ofInt ((Int32.ofInt x >>> (Int32.ofInt (c : Int) &&& 31)).toInt)).toBitVec.getLsbD 0 = (Int32.ofInt x).toBitVec.getLsbD c
  rw [Int32.ofInt_toInt, Int32.toBitVec_shiftRight, sb_s ⟨c, hc⟩, sb_m ⟨c, hc⟩]
  simp only
  rw [BitVec.sshiftRight_eq', BitVec.getLsbD_sshiftRight]
  have c2 : c % 4294967296 = c := Nat.mod_eq_of_lt (by omega)
  simp [hc, c2]
/-- the test of a bit -/
theorem sb_c {x : Int} {c : Nat} (hc : c < 32) : (yari 7 (yari 6 x (c : Int)) 1 = 1 ∧ sbt x c = true) ∨ (yari 7 (yari 6 x (c : Int)) 1 = 0 ∧ sbt x c = false) := by
  have a := sb_a (Int32.ofInt (yari 6 x (c : Int)))
  rw [sb_h hc] at a
  exact a
theorem sb_t {x : Int} {c : Nat} (hc : c < 32) : yari 7 (yari 6 x (c : Int)) 1 = 1 ↔ sbt x c = true := by
  rcases sb_c (x := x) hc with ⟨w1, w2⟩ | ⟨w1, w2⟩
  · exact ⟨fun _ => w2, fun _ => w1⟩
  · rw [w1, w2]
    exact ⟨fun w => (by omega), fun w => (by cases w)⟩
theorem sb_f {x : Int} {c : Nat} (hc : c < 32) : yari 7 (yari 6 x (c : Int)) 1 = 0 ↔ sbt x c = false := by
  rcases sb_c (x := x) hc with ⟨w1, w2⟩ | ⟨w1, w2⟩
  · rw [w1, w2]
    exact ⟨fun w => (by omega), fun w => (by cases w)⟩
  · exact ⟨fun _ => w2, fun _ => w1⟩
theorem sb_o {x y : Int} {c : Nat} : sbt (yari 8 x y) c = (sbt x c || sbt y c) := by
  show (Int32.ofInt ((Int32.ofInt x ||| Int32.ofInt y).toInt)).toBitVec.getLsbD c = _
  rw [Int32.ofInt_toInt, Int32.toBitVec_or, BitVec.getLsbD_or]
  rfl
theorem sb_k : ∀ k : Fin 16, ∀ c : Fin 32, sbt (yari 5 1 (k.val : Int)) c.val = decide (c.val = k.val) := by decide +kernel
theorem sb_0 : ∀ c : Fin 32, sbt 0 c.val = false := by decide +kernel
theorem sb_e {x : Int} {k c : Nat} (hk : k < 16) (hc : c < 32) : sbt (yari 8 x (yari 5 1 (k : Int))) c = (sbt x c || decide (c = k)) := by
  rw [sb_o]
  have := sb_k ⟨k, hk⟩ ⟨c, hc⟩
  simp only at this
  rw [this]
theorem sb_n1 : ∀ c : Fin 32, (Int32.ofInt (-1)).toBitVec.getLsbD c.val = true := by decide +kernel
/-- what is ahead is placed: no bit without the other's -/
theorem sb_n {x y : Int} : yari 7 x (yari 9 y (-1)) = 0 ↔ ∀ c, c < 32 → sbt x c = true → sbt y c = true := by
  have e : yari 7 x (yari 9 y (-1)) = (Int32.ofInt x &&& (Int32.ofInt y ^^^ Int32.ofInt (-1))).toInt := by
    show (Int32.ofInt x &&& Int32.ofInt ((Int32.ofInt y ^^^ Int32.ofInt (-1)).toInt)).toInt = _
    rw [Int32.ofInt_toInt]
  have b : ∀ c, c < 32 → (Int32.ofInt x &&& (Int32.ofInt y ^^^ Int32.ofInt (-1))).toBitVec.getLsbD c = (sbt x c && !(sbt y c)) := fun c hc => by
    rw [Int32.toBitVec_and, BitVec.getLsbD_and, Int32.toBitVec_xor, BitVec.getLsbD_xor, sb_n1 ⟨c, hc⟩]
    simp [sbt]
  rw [e]
  constructor
  · intro h c hc hx
    have z : (Int32.ofInt x &&& (Int32.ofInt y ^^^ Int32.ofInt (-1))) = 0 := Int32.toInt_inj.mp h
    have k := b c hc
    rw [z, hx] at k
    have z0 : (0 : Int32).toBitVec.getLsbD c = false := by
      show (0#32).getLsbD c = false
      simp
    rw [z0] at k
    cases hy : sbt y c with
    | true => rfl
    | false =>
      rw [hy] at k
      cases k
  · intro h
    have z : (Int32.ofInt x &&& (Int32.ofInt y ^^^ Int32.ofInt (-1))) = 0 := by
      apply Int32.toBitVec_inj.mp
      apply BitVec.eq_of_getLsbD_eq
      intro i hi
      rw [b i hi]
      have z0 : (0 : Int32).toBitVec.getLsbD i = false := by
        show (0#32).getLsbD i = false
        simp
      rw [z0]
      cases hx : sbt x i with
      | false => rfl
      | true =>
        rw [h i hi hx]
        rfl
    rw [z]
    rfl
theorem or9F : ∀ x : Fin 512, ∀ k : Fin 9, 0 ≤ yari 8 (x.val : Int) (yari 5 1 (k.val : Int)) ∧ yari 8 (x.val : Int) (yari 5 1 (k.val : Int)) ≤ 511 := by decide +kernel
theorem or9 {x : Int} {k : Nat} (hx : 0 ≤ x ∧ x ≤ 511) (hk : k < 9) : 0 ≤ yari 8 x (yari 5 1 (k : Int)) ∧ yari 8 x (yari 5 1 (k : Int)) ≤ 511 := by
  have := or9F ⟨x.toNat, by omega⟩ ⟨k, hk⟩
  simp only at this
  rw [Int.toNat_of_nonneg hx.1] at this
  exact this
end
section
/-! an order: both sides place the same sayings -/
def bfT (t : Nat → Int) : Nat → Nat → Int
  | 0, _ => 0
  | k + 1, j => if (j : Int) = t (21 + 2 * k) then yari 8 (bfT t k j) (yari 5 1 (t (20 + 2 * k))) else bfT t k j
def bf (t : Nat → Int) (j : Nat) : Int := bfT t (t 1).toNat j
theorem bfT_b {t : Nat → Int} (hW : tW2 t) : ∀ k, k ≤ 16 → ∀ j, 0 ≤ bfT t k j ∧ bfT t k j ≤ 511 := by
  intro k
  induction k with
  | zero => intro _ j; exact ⟨Int.le_refl _, show (0 : Int) ≤ 511 by decide⟩
  | succ k ih =>
    intro hk j
    have i := ih (by omega) j
    have b := (hW.2.2.2 k (by omega)).1
    show 0 ≤ (if (j : Int) = t (21 + 2 * k) then yari 8 (bfT t k j) (yari 5 1 (t (20 + 2 * k))) else bfT t k j) ∧ (if (j : Int) = t (21 + 2 * k) then yari 8 (bfT t k j) (yari 5 1 (t (20 + 2 * k))) else bfT t k j) ≤ 511
    by_cases c : (j : Int) = t (21 + 2 * k)
    · rw [if_pos c]
      have o := or9 (k := (t (20 + 2 * k)).toNat) i (by omega)
      rw [Int.toNat_of_nonneg b.1] at o
      exact o
    · rw [if_neg c]; exact i
/-- the first of m sayings from s that can be next behind a set -/
def nxA (t : Nat → Int) (p : Int) : Nat → Nat → Int
  | 0, _ => -1
  | m + 1, s => if yari 7 (yari 6 p (s : Int)) 1 = 0 ∧ yari 7 (bf t s) (yari 9 p (-1)) = 0 then (s : Int) else nxA t p m (s + 1)
theorem nxA_s {t : Nat → Int} {p : Int} {m s : Nat} : nxA t p (m + 1) s = if yari 7 (yari 6 p (s : Int)) 1 = 0 ∧ yari 7 (bf t s) (yari 9 p (-1)) = 0 then (s : Int) else nxA t p m (s + 1) := rfl
theorem nxA_c {t : Nat → Int} {p : Int} : ∀ m s, m + s ≤ 9 → nxA t p m s = -1 ∨ ∃ x : Nat, nxA t p m s = (x : Int) ∧ s ≤ x ∧ x < s + m ∧ sbt p x = false ∧ ∀ c, c < 32 → sbt (bf t x) c = true → sbt p c = true := by
  intro m
  induction m with
  | zero => intro s _; exact Or.inl rfl
  | succ m ih =>
    intro s e
    rw [nxA_s]
    by_cases c : yari 7 (yari 6 p (s : Int)) 1 = 0 ∧ yari 7 (bf t s) (yari 9 p (-1)) = 0
    · rw [if_pos c]
      exact Or.inr ⟨s, rfl, by omega, by omega, (sb_f (by omega)).mp c.1, sb_n.mp c.2⟩
    · rw [if_neg c]
      rcases ih (s + 1) (by omega) with w | ⟨x, w1, w2, w3, w4⟩
      · exact Or.inl w
      · exact Or.inr ⟨x, w1, by omega, by omega, w4⟩
/-- what is placed behind i, and the i-th -/
def plV (t : Nat → Int) : Nat → Int
  | 0 => 0
  | i + 1 => yari 8 (plV t i) (yari 5 1 (nxA t (plV t i) (t 0).toNat 0))
def odV (t : Nat → Int) (i : Nat) : Int := nxA t (plV t i) (t 0).toNat 0
/-- there is an order -/
def odR (t : Nat → Int) : Prop := ∀ i : Nat, (i : Int) < t 0 → odV t i ≠ -1
theorem od_c {t : Nat → Int} (hW : tW2 t) {i : Nat} (h : odV t i ≠ -1) : ∃ x : Nat, odV t i = (x : Int) ∧ (x : Int) < t 0 ∧ sbt (plV t i) x = false ∧ ∀ c, c < 32 → sbt (bf t x) c = true → sbt (plV t i) c = true := by
  have w0 := hW.1
  rcases nxA_c (t := t) (p := plV t i) (t 0).toNat 0 (by omega) with w | ⟨x, w1, w2, w3, w4, w5⟩
  · exact absurd w h
  · exact ⟨x, w1, by omega, w4, w5⟩
theorem pl_c {t : Nat → Int} (hW : tW2 t) : ∀ i : Nat, (i : Int) ≤ t 0 → (∀ j, j < i → odV t j ≠ -1) → ∀ c, c < 32 → (sbt (plV t i) c = true ↔ ∃ j, j < i ∧ odV t j = (c : Int)) := by
  have w0 := hW.1
  intro i
  induction i with
  | zero =>
    intro _ _ c hc
    have : sbt (plV t 0) c = false := sb_0 ⟨c, hc⟩
    rw [this]
    exact ⟨fun w => (by cases w), fun ⟨j, w, _⟩ => (by omega)⟩
  | succ i ih =>
    intro hi ho c hc
    obtain ⟨x, x1, x2, x3, x4⟩ := od_c hW (ho i (by omega))
    have e : plV t (i + 1) = yari 8 (plV t i) (yari 5 1 (odV t i)) := rfl
    rw [e, x1, sb_e (by omega) hc, Bool.or_eq_true, decide_eq_true_iff, ih (by omega) (fun j hj => ho j (by omega)) c hc]
    constructor
    · rintro (⟨j, w1, w2⟩ | w)
      · exact ⟨j, by omega, w2⟩
      · exact ⟨i, by omega, by rw [x1, w]⟩
    · rintro ⟨j, w1, w2⟩
      by_cases y : j = i
      · right
        rw [y, x1] at w2
        omega
      · exact Or.inl ⟨j, by omega, w2⟩
/-- so many different ones below as many are all of them -/
theorem php : ∀ (n : Nat) (f : Nat → Nat), (∀ i, i < n → f i < n) → (∀ i j, i < n → j < n → f i = f j → i = j) → ∀ a, a < n → ∃ i, i < n ∧ f i = a := by
  intro n
  induction n with
  | zero => intro f _ _ a h; omega
  | succ n ih =>
    intro f hb hi a ha
    obtain ⟨v, ev⟩ : ∃ v, v = f n := ⟨_, rfl⟩
    have vb := hb n (by omega)
    have key := ih (fun j => if f j = n then v else f j) (fun i h => by
      show (if f i = n then v else f i) < n
      by_cases c : f i = n
      · rw [if_pos c]
        by_cases q : v = n
        · exact absurd (hi i n (by omega) (by omega) (by omega)) (by omega)
        · omega
      · rw [if_neg c]
        have := hb i (by omega)
        omega) (fun i j h1 h2 => by
      show (if f i = n then v else f i) = (if f j = n then v else f j) → i = j
      by_cases c : f i = n
      · by_cases c2 : f j = n
        · exact fun _ => hi i j (by omega) (by omega) (by omega)
        · rw [if_pos c, if_neg c2]
          intro w
          exact absurd (hi j n (by omega) (by omega) (by omega)) (by omega)
      · by_cases c2 : f j = n
        · rw [if_neg c, if_pos c2]
          intro w
          exact absurd (hi i n (by omega) (by omega) (by omega)) (by omega)
        · rw [if_neg c, if_neg c2]
          exact fun w => hi i j (by omega) (by omega) w)
    by_cases c1 : a = v
    · exact ⟨n, by omega, by omega⟩
    · by_cases c2 : a = n
      · obtain ⟨i, h1, h2⟩ := key v (by omega)
        by_cases c : f i = n
        · exact ⟨i, by omega, by omega⟩
        · have h3 : f i = v := by
            have h4 : (if f i = n then v else f i) = v := h2
            rw [if_neg c] at h4
            exact h4
          exact absurd (hi i n (by omega) (by omega) (by omega)) (by omega)
      · obtain ⟨i, h1, h2⟩ := key a (by omega)
        have h4 : (if f i = n then v else f i) = a := h2
        by_cases c : f i = n
        · rw [if_pos c] at h4
          exact absurd h4.symm c1
        · rw [if_neg c] at h4
          exact ⟨i, by omega, h4⟩
theorem od_i {t : Nat → Int} (hW : tW2 t) (ho : odR t) {i j : Nat} (hi : (i : Int) < t 0) (hj : (j : Int) < t 0) (e : odV t i = odV t j) : i = j := by
  have key : ∀ i j : Nat, i < j → (j : Int) < t 0 → odV t i ≠ odV t j := fun i j h1 h2 w => by
    obtain ⟨x, x1, x2, x3, x4⟩ := od_c hW (ho j h2)
    have := (pl_c hW j (by omega) (fun k hk => ho k (by omega)) x (by have := hW.1; omega)).mpr ⟨i, h1, by rw [w, x1]⟩
    rw [x3] at this
    cases this
  by_cases c : i = j
  · exact c
  · by_cases c2 : i < j
    · exact absurd e (key i j c2 hj)
    · exact absurd e.symm (key j i (by omega) hi)
/-- every saying has its place -/
theorem od_s {t : Nat → Int} (hW : tW2 t) (ho : odR t) {a : Nat} (ha : (a : Int) < t 0) : ∃ i : Nat, (i : Int) < t 0 ∧ odV t i = (a : Int) := by
  have w0 := hW.1
  obtain ⟨i, h1, h2⟩ := php (t 0).toNat (fun i => (odV t i).toNat) (fun i hi => by
    obtain ⟨x, x1, x2, -⟩ := od_c hW (ho i (by omega))
    show (odV t i).toNat < (t 0).toNat
    omega) (fun i j hi hj e => by
    obtain ⟨x, x1, x2, -⟩ := od_c hW (ho i (by omega))
    obtain ⟨y, y1, y2, -⟩ := od_c hW (ho j (by omega))
    have e2 : (odV t i).toNat = (odV t j).toNat := e
    exact od_i hW ho (by omega) (by omega) (by omega)) a (by omega)
  obtain ⟨x, x1, x2, -⟩ := od_c hW (ho i (by omega))
  have e2 : (odV t i).toNat = a := h2
  exact ⟨i, by omega, by omega⟩
/-- what is ahead has an earlier place -/
theorem od_b {t : Nat → Int} (hW : tW2 t) (ho : odR t) {i c x : Nat} (hi : (i : Int) < t 0) (hx : odV t i = (x : Int)) (hc : c < 32) (hb : sbt (bf t x) c = true) : ∃ j, j < i ∧ odV t j = (c : Int) := by
  obtain ⟨y, y1, y2, y3, y4⟩ := od_c hW (ho i hi)
  have e : y = x := by omega
  rw [e] at y4
  exact (pl_c hW i (by omega) (fun k hk => ho k (by omega)) c hc).mp (y4 c hc hb)
/-! the class -/
def cPo (h : yH) : Prop := h 180 0 = 181 ∧ h 180 1 = 182 ∧ h 180 2 = 183 ∧ h 180 3 = 184 ∧ h 180 4 = 185 ∧ h 180 5 = 186
theorem cPo.fr {h h2 : yH} (p : cPo h) (e : ∀ j, j ≤ 5 → h2 180 j = h 180 j) : cPo h2 := ⟨by rw [e _ (by omega)]; exact p.1, by rw [e _ (by omega)]; exact p.2.1, by rw [e _ (by omega)]; exact p.2.2.1, by rw [e _ (by omega)]; exact p.2.2.2.1, by rw [e _ (by omega)]; exact p.2.2.2.2.1, by rw [e _ (by omega)]; exact p.2.2.2.2.2⟩
def cQp (b : Nat) (h : yH) : Prop := h b 1 = (b : Int) + 1 ∧ h b 2 = (b : Int) + 2 ∧ h b 4 = (b : Int) + 3 ∧ h b 5 = (b : Int) + 4
theorem cP.q {d : Nat} {h : yH} (hP : cP h) (hd : d < 2) : cQp (60 + 10 * d) h := by
  rcases (show d = 0 ∨ d = 1 by omega) with rfl | rfl
  · exact ⟨hP.p (a := 60) (j := 1) (v := 61) (by decide), hP.p (a := 60) (j := 2) (v := 62) (by decide), hP.p (a := 60) (j := 4) (v := 63) (by decide), hP.p (a := 60) (j := 5) (v := 64) (by decide)⟩
  · exact ⟨hP.p (a := 70) (j := 1) (v := 71) (by decide), hP.p (a := 70) (j := 2) (v := 72) (by decide), hP.p (a := 70) (j := 4) (v := 73) (by decide), hP.p (a := 70) (j := 5) (v := 74) (by decide)⟩
/-- a dispute told, and what is asked of it -/
def oC (b : Nat) (t : Nat → Int) (h : yH) : Prop := b + 8 ≤ 180 ∧ cQ b t h ∧ cQp b h ∧ cPo h
theorem oC.fr {b : Nat} {t : Nat → Int} {h h2 : yH} (H : oC b t h) (e : ∀ a j, a < 180 ∨ (a = 180 ∧ j ≤ 5) → h2 a j = h a j) : oC b t h2 := by
  obtain ⟨h1, ⟨q1, q2, q3, q4⟩, ⟨p1, p2, p3, p4⟩, ho⟩ := H
  refine ⟨h1, ⟨?_, ?_, fun k hk => ?_, fun k hk => ?_⟩, ⟨?_, ?_, ?_, ?_⟩, ho.fr (fun j hj => e _ _ (by omega))⟩
  · rw [e _ _ (by omega)]; exact q1
  · rw [e _ _ (by omega)]; exact q2
  · rw [e _ _ (by omega), e _ _ (by omega)]; exact q3 k hk
  · rw [e _ _ (by omega), e _ _ (by omega)]; exact q4 k hk
  · rw [e _ _ (by omega)]; exact p1
  · rw [e _ _ (by omega)]; exact p2
  · rw [e _ _ (by omega)]; exact p3
  · rw [e _ _ (by omega)]; exact p4
theorem fil9_l {a x : Nat} {z : Int} : ∀ (mm s n : Nat) (h : yH), mm + s = 9 → mm < n → ∃ h2, xl_J7_fill_53178_b n 5 [(a : Int), z, (s : Int), 9] h = some (0, h2) ∧ (∀ i j, ¬ (i = a ∧ s ≤ j ∧ j < 9) → h2 i j = h i j) ∧ ∀ j, s ≤ j → j < 9 → h2 a j = z := by
  intro mm
  induction mm with
  | zero =>
    intro s n h e1 e2
    obtain ⟨n, rfl⟩ : ∃ n', n = n' + 1 := ⟨n - 1, by omega⟩
    refine ⟨h, ?_, fun _ _ _ => rfl, fun j w1 w2 => by omega⟩
    rw [e_J7_fill_53178_b_5, if_neg (by omega)]
  | succ mm ih =>
    intro s n h e1 e2
    obtain ⟨n, rfl⟩ : ∃ n', n = n' + 1 := ⟨n - 1, by omega⟩
    obtain ⟨h2, f1, f2, f3⟩ := ih (s + 1) n (zup h a s z) (by omega) (by omega)
    refine ⟨h2, ?_, fun i j w => by rw [f2 i j (by omega), zup_ne (by omega)], fun j w1 w2 => ?_⟩
    · rw [e_J7_fill_53178_b_5, if_pos (by omega), xg_pos (by omega), xh_e, xg_pos (by omega), Int.toNat_natCast, Int.toNat_natCast, show (s : Int) + 1 = ((s + 1 : Nat) : Int) by omega]
      exact f1
    · by_cases y : j = s
      · rw [y, f2 a s (by omega), zup_at]
      · exact f3 j (by omega) w2
theorem fbf_l {b : Nat} {t : Nat → Int} (hW : tW2 t) : ∀ (mm k n : Nat) (h : yH), (mm : Int) + k = t 1 → mm < n → oC b t h → (∀ j, j < 9 → h 183 j = bfT t k j) →
    ∃ h2, xl_X3_findBefore n 10 [180, (b : Int), (k : Int)] h = some (0, h2) ∧ (∀ i j, i ≠ 183 → h2 i j = h i j) ∧ ∀ j, j < 9 → h2 183 j = bf t j := by
  have w1 := hW.2.1
  intro mm
  induction mm with
  | zero =>
    intro k n h e1 e2 H I
    obtain ⟨n, rfl⟩ : ∃ n', n = n' + 1 := ⟨n - 1, by omega⟩
    refine ⟨h, ?_, fun _ _ _ => rfl, fun j hj => ?_⟩
    · rw [e_X3_findBefore_10, Int.toNat_natCast, H.2.1.2.1, if_neg (by omega)]
    · rw [I j hj]
      unfold bf
      rw [show (t 1).toNat = k by omega]
  | succ mm ih =>
    intro k n h e1 e2 H I
    obtain ⟨n, rfl⟩ : ∃ n', n = n' + 1 := ⟨n - 1, by omega⟩
    obtain ⟨hb, q, p, o⟩ := id H
    obtain ⟨b1, b2, -⟩ := hW.2.2.2 k (by omega)
    obtain ⟨r1, r2⟩ := q.2.2.2 k (by omega)
    have e3 : ((b : Int) + 3).toNat = b + 3 := by omega
    have e4 : ((b : Int) + 4).toNat = b + 4 := by omega
    obtain ⟨s, es⟩ : ∃ s : Nat, t (21 + 2 * k) = (s : Int) := ⟨(t (21 + 2 * k)).toNat, by omega⟩
    obtain ⟨h2, f1, f2, f3⟩ := ih (k + 1) n (zup h 183 s (yari 8 (h 183 s) (yari 5 1 (t (20 + 2 * k))))) (by omega) (by omega) (H.fr (fun a j w => zup_ne (by omega))) (fun j hj => by
      have e : bfT t (k + 1) j = if (j : Int) = t (21 + 2 * k) then yari 8 (bfT t k j) (yari 5 1 (t (20 + 2 * k))) else bfT t k j := rfl
      rw [e, es]
      by_cases y : j = s
      · rw [y, zup_at, if_pos rfl, I s (by omega)]
      · rw [zup_ne (by omega), if_neg (by omega), I j hj])
    refine ⟨h2, ?_, fun i j w => by rw [f2 i j w, zup_ne (by omega)], f3⟩
    rw [e_X3_findBefore_10, Int.toNat_natCast, Int.toNat_natCast, e3, e4, q.2.1, if_pos (by omega), xg_pos o.2.2.1, xg_pos p.2.2.2, xg_pos (by omega), r2, xg_pos (by omega), xg_pos p.2.2.1, xg_pos (by omega), xg_pos (by omega), xg_pos (by omega), r1, es, Int.toNat_natCast, show (k : Int) + 1 = ((k + 1 : Nat) : Int) by omega]
    exact f1
theorem fbf_e {n b : Nat} {t : Nat → Int} {h : yH} (hn : 30 ≤ n) (hW : tW2 t) (H : oC b t h) : ∃ h2, f_X3_findBefore n [180, (b : Int)] h = some (0, h2) ∧ (∀ i j, i ≠ 183 → h2 i j = h i j) ∧ ∀ j, j < 9 → h2 183 j = bf t j := by
  have w1 := hW.2.1
  obtain ⟨hA, A1, A2, A3⟩ := fil9_l (a := 183) (x := 0) (z := 0) 9 0 n h rfl (by omega)
  obtain ⟨h2, f1, f2, f3⟩ := fbf_l hW (t 1).toNat 0 n hA (by omega) (by omega) (H.fr (fun a j w => A2 a j (by omega))) (fun j hj => A3 j (Nat.zero_le _) hj)
  refine ⟨h2, ?_, fun i j w => (f2 i j w).trans (A2 i j (by omega)), f3⟩
  rw [e_X3_findBefore, xg_pos H.2.2.2.2.2.1, e_J7_fill_53178_b]
  rw [show ((183 : Nat) : Int) = 183 from rfl, show ((0 : Nat) : Int) = 0 from rfl] at A1
  rw [A1, xb_some]
  exact f1
theorem nxC_l {b i : Nat} {p : Int} {t : Nat → Int} {h : yH} (hW : tW2 t) (H : oC b t h) (I : ∀ j, j < 9 → h 183 j = bf t j) : ∀ (mm s n : Nat), (mm : Int) + s = t 0 → mm + 1 < n → ∃ (n' : Nat) (y : Int), xl_X3_findFirstOrder n 23 [180, (b : Int), p, (i : Int), -1, (s : Int)] h = xq_X3_findFirstOrder_71 n' (xl_X3_findFirstOrder n') [180, (b : Int), p, (i : Int), nxA t p mm s, y] h ∧ n ≤ n' + mm + 2 := by
  have w0 := hW.1
  intro mm
  induction mm with
  | zero =>
    intro s n e1 e2
    obtain ⟨n, rfl⟩ : ∃ n', n = n' + 1 := ⟨n - 1, by omega⟩
    refine ⟨n, s, ?_, by omega⟩
    rw [e_X3_findFirstOrder_23, Int.toNat_natCast, H.2.1.1, if_neg (by omega)]
    rfl
  | succ mm ih =>
    intro s n e1 e2
    obtain ⟨n, rfl⟩ : ∃ n', n = n' + 1 := ⟨n - 1, by omega⟩
    have hs : h 183 s = bf t s := I s (by omega)
    obtain ⟨n', y, f1, f2⟩ := ih (s + 1) n (by omega) (by omega)
    rw [e_X3_findFirstOrder_23, Int.toNat_natCast, H.2.1.1, if_pos (by omega), if_pos rfl, nxA_s]
    by_cases c : yari 7 (yari 6 p (s : Int)) 1 = 0
    · rw [if_pos c, xg_pos H.2.2.2.2.2.1, xg_pos (by omega), Int.toNat_natCast, hs]
      by_cases c2 : yari 7 (bf t s) (yari 9 p (-1)) = 0
      · rw [if_pos c2, xg_pos (by omega), if_pos (by exact ⟨c, c2⟩)]
        obtain ⟨n, rfl⟩ : ∃ n', n = n' + 1 := ⟨n - 1, by omega⟩
        refine ⟨n, (s : Int) + 1, ?_, by omega⟩
        rw [e_X3_findFirstOrder_23, Int.toNat_natCast, H.2.1.1]
        by_cases z : (s : Int) + 1 < t 0
        · rw [if_pos z, if_neg (by omega)]
        · rw [if_neg z]
      · rw [if_neg c2, xg_pos (by omega), if_neg (by exact fun w => c2 w.2), show (s : Int) + 1 = ((s + 1 : Nat) : Int) by omega]
        exact ⟨n', y, f1, by omega⟩
    · rw [if_neg c, xg_pos (by omega), if_neg (by exact fun w => c w.1), show (s : Int) + 1 = ((s + 1 : Nat) : Int) by omega]
      exact ⟨n', y, f1, by omega⟩
theorem ffo_l {b : Nat} {t : Nat → Int} (hW : tW2 t) : ∀ (mm i n : Nat) (h : yH), (mm : Int) + i = t 0 → 20 * mm + 20 ≤ n → oC b t h → (∀ j, j < 9 → h 183 j = bf t j) →
    ∃ v h2, xl_X3_findFirstOrder n 9 [180, (b : Int), plV t i, (i : Int)] h = some (v, h2) ∧ (∀ a j, a ≠ 184 → h2 a j = h a j) ∧ (∀ j, j < i → h2 184 j = h 184 j) ∧ ((v = 1 ∧ ∀ j : Nat, i ≤ j → (j : Int) < t 0 → odV t j ≠ -1 ∧ h2 184 j = odV t j) ∨ (v = 0 ∧ ∃ j : Nat, (i ≤ j ∧ (j : Int) < t 0) ∧ odV t j = -1)) := by
  have w0 := hW.1
  intro mm
  induction mm with
  | zero =>
    intro i n h e1 e2 H I
    obtain ⟨n, rfl⟩ : ∃ n', n = n' + 1 := ⟨n - 1, by omega⟩
    refine ⟨1, h, ?_, fun _ _ _ => rfl, fun _ _ => rfl, Or.inl ⟨rfl, fun j w1 w2 => by omega⟩⟩
    rw [e_X3_findFirstOrder_9, Int.toNat_natCast, H.2.1.1, if_neg (by omega)]
  | succ mm ih =>
    intro i n h e1 e2 H I
    obtain ⟨n, rfl⟩ : ∃ n', n = n' + 1 := ⟨n - 1, by omega⟩
    obtain ⟨n1, y, p1, p2⟩ := nxC_l (i := i) (p := plV t i) hW H I (t 0).toNat 0 n (by omega) (by omega)
    rw [show ((0 : Nat) : Int) = 0 from rfl] at p1
    rw [e_X3_findFirstOrder_9, Int.toNat_natCast, H.2.1.1, if_pos (by omega), p1, e_X3_findFirstOrder_71]
    have eo : nxA t (plV t i) (t 0).toNat 0 = odV t i := rfl
    rw [eo]
    by_cases c : odV t i = -1
    · rw [if_pos c]
      exact ⟨0, h, rfl, fun _ _ _ => rfl, fun _ _ => rfl, Or.inr ⟨rfl, i, by omega, c⟩⟩
    · obtain ⟨x, x1, x2, -⟩ := od_c hW c
      obtain ⟨v, h2, f1, f2, f3, f4⟩ := ih (i + 1) n1 (zup h 184 i (odV t i)) (by omega) (by omega) (H.fr (fun a j w => zup_ne (by omega))) (fun j hj => by rw [zup_ne (by omega)]; exact I j hj)
      refine ⟨v, h2, ?_, fun a j w => by rw [f2 a j w, zup_ne (by omega)], fun j hj => by rw [f3 j (by omega), zup_ne (by omega)], ?_⟩
      · have e : plV t (i + 1) = yari 8 (plV t i) (yari 5 1 (odV t i)) := rfl
        rw [if_neg c, xg_pos H.2.2.2.2.2.2.1, xg_pos (by omega), xg_pos (show 0 ≤ odV t i ∧ odV t i ≤ 8 by omega), xg_pos (by omega), Int.toNat_natCast, show (i : Int) + 1 = ((i + 1 : Nat) : Int) by omega, ← e]
        exact f1
      · rcases f4 with ⟨f4, f5⟩ | ⟨f4, j, f5, f6⟩
        · refine Or.inl ⟨f4, fun j w1 w2 => ?_⟩
          by_cases z : j = i
          · rw [z, f3 i (by omega), zup_at]
            exact ⟨c, rfl⟩
          · exact f5 j (by omega) w2
        · exact Or.inr ⟨f4, j, by omega, f6⟩
/-- the class's first order -/
def odA (t : Nat → Int) (h2 : yH) : Prop := (∀ j, j < 9 → h2 183 j = bf t j) ∧ ∀ j : Nat, (j : Int) < t 0 → h2 184 j = odV t j
theorem ffo_e {n b : Nat} {t : Nat → Int} {h : yH} (hn : 300 ≤ n) (hW : tW2 t) (H : oC b t h) : ∃ v h2, f_X3_findFirstOrder n [180, (b : Int)] h = some (v, h2) ∧ (∀ a j, a ≠ 183 → a ≠ 184 → h2 a j = h a j) ∧ ((v = 1 ∧ odR t ∧ odA t h2) ∨ (v = 0 ∧ ¬ odR t)) := by
  have w0 := hW.1
  obtain ⟨hA, A1, A2, A3⟩ := fbf_e (n := n) (by omega) hW H
  obtain ⟨v, h2, f1, f2, f3, f4⟩ := ffo_l hW (t 0).toNat 0 n hA (by omega) (by omega) (H.fr (fun a j w => A2 a j (by omega))) A3
  refine ⟨v, h2, ?_, fun a j w1 w2 => (f2 a j w2).trans (A2 a j w1), ?_⟩
  · rw [e_X3_findFirstOrder, A1, xb_some]
    exact f1
  · rcases f4 with ⟨f4, f5⟩ | ⟨f4, j, f5, f6⟩
    · exact Or.inl ⟨f4, fun i hi => (f5 i (Nat.zero_le _) hi).1, fun j hj => (f2 _ _ (by decide)).trans (A3 j hj), fun j hj => (f5 j (Nat.zero_le _) hj).2⟩
    · exact Or.inr ⟨f4, fun w => w j f5.2 f6⟩
end
section
/-! an order: the reference -/
def oR (d : Nat) (t : Nat → Int) (g : yH) : Prop := d < 2 ∧ rQ g ∧ g 35 55 = (d : Int) ∧ g 35 56 = t 0 ∧ g 35 57 = t 1 ∧ ∀ j, j < 52 → g 7 (52 * d + j) = t j
theorem oR.fr {d : Nat} {t : Nat → Int} {g g2 : yH} (H : oR d t g) (e : ∀ a j, a ≤ 28 ∨ a = 35 → g2 a j = g a j) : oR d t g2 := by
  obtain ⟨h1, h2, h3, h4, h5, h6⟩ := H
  exact ⟨h1, h2.fr (fun j _ => e _ _ (by omega)), (e _ _ (by omega)).trans h3, (e _ _ (by omega)).trans h4, (e _ _ (by omega)).trans h5, fun j hj => (e _ _ (by omega)).trans (h6 j hj)⟩
theorem ofD_e {n d : Nat} {j : Nat} {t : Nat → Int} {g : yH} (q : rQ g) (hd : d < 2) (h55 : g 35 55 = (d : Int)) (h7 : ∀ j, j < 52 → g 7 (52 * d + j) = t j) (hj : j < 52) : f_X12_ofDispute n [35, (j : Int)] g = some (t j, g) := by
  rw [e_X12_ofDispute, h55, xg_pos (q.p (j := 8) (k := 7) (by decide)), xg_pos (by omega), xg_pos (by omega), xg_pos (by omega), show (52 * (d : Int) + (j : Int)).toNat = 52 * d + j by omega, h7 j hj]
theorem oR.of {n d j : Nat} {t : Nat → Int} {g : yH} (H : oR d t g) (hj : j < 52) : f_X12_ofDispute n [35, (j : Int)] g = some (t j, g) := ofD_e H.2.1 H.1 H.2.2.1 H.2.2.2.2.2 hj
theorem isIn_t {n : Nat} {x y : Int} {g : yH} (h : yari 7 (yari 6 x y) 1 = 1) : f_X12_isIn n [x, y] g = some (1, g) := by rw [e_X12_isIn, if_pos h]
theorem isIn_f {n : Nat} {x y : Int} {g : yH} (h : ¬ yari 7 (yari 6 x y) 1 = 1) : f_X12_isIn n [x, y] g = some (0, g) := by rw [e_X12_isIn, if_neg h]
/-- a set without some of the aheads -/
def bgT (t : Nat → Int) (but : Int) : Nat → Nat → Int
  | 0, _ => 0
  | k + 1, j => if (j : Int) = t (21 + 2 * k) ∧ ¬ yari 7 (yari 6 but (k : Int)) 1 = 1 then yari 8 (bgT t but k j) (yari 5 1 (t (20 + 2 * k))) else bgT t but k j
theorem bgT_b {t : Nat → Int} {but : Int} (hW : tW2 t) : ∀ k, k ≤ 16 → ∀ j, 0 ≤ bgT t but k j ∧ bgT t but k j ≤ 511 := by
  intro k
  induction k with
  | zero => intro _ j; exact ⟨Int.le_refl _, show (0 : Int) ≤ 511 by decide⟩
  | succ k ih =>
    intro hk j
    have i := ih (by omega) j
    have b := (hW.2.2.2 k (by omega)).1
    show 0 ≤ (if (j : Int) = t (21 + 2 * k) ∧ ¬ yari 7 (yari 6 but (k : Int)) 1 = 1 then yari 8 (bgT t but k j) (yari 5 1 (t (20 + 2 * k))) else bgT t but k j) ∧ (if (j : Int) = t (21 + 2 * k) ∧ ¬ yari 7 (yari 6 but (k : Int)) 1 = 1 then yari 8 (bgT t but k j) (yari 5 1 (t (20 + 2 * k))) else bgT t but k j) ≤ 511
    by_cases c : (j : Int) = t (21 + 2 * k) ∧ ¬ yari 7 (yari 6 but (k : Int)) 1 = 1
    · rw [if_pos c]
      have o := or9 (k := (t (20 + 2 * k)).toNat) i (by omega)
      rw [Int.toNat_of_nonneg b.1] at o
      exact o
    · rw [if_neg c]; exact i
theorem bgT_0 {t : Nat → Int} : ∀ k, k ≤ 16 → ∀ j, bgT t 0 k j = bfT t k j := by
  intro k
  induction k with
  | zero => intro _ j; rfl
  | succ k ih =>
    intro hk j
    have z : ¬ yari 7 (yari 6 0 (k : Int)) 1 = 1 := fun w => by
      have a := (sb_t (x := 0) (c := k) (by omega)).mp w
      have b := sb_0 ⟨k, by omega⟩
      simp only at b
      rw [b] at a
      cases a
    show (if (j : Int) = t (21 + 2 * k) ∧ ¬ yari 7 (yari 6 0 (k : Int)) 1 = 1 then yari 8 (bgT t 0 k j) (yari 5 1 (t (20 + 2 * k))) else bgT t 0 k j) = (if (j : Int) = t (21 + 2 * k) then yari 8 (bfT t k j) (yari 5 1 (t (20 + 2 * k))) else bfT t k j)
    rw [ih (by omega) j]
    by_cases c : (j : Int) = t (21 + 2 * k)
    · rw [if_pos c, if_pos ⟨c, z⟩]
    · rw [if_neg c, if_neg (fun w => c w.1)]
theorem lay2_l {d : Nat} {but : Int} {t : Nat → Int} (hW : tW2 t) (hh : wh2 t) : ∀ (mm k n : Nat) (g : yH), (mm : Int) + k = t 1 → mm + 3 < n → oR d t g → (∀ j : Nat, (j : Int) < t 0 → g 29 j = bgT t but k j) →
    ∃ g2, xl_X12_layAheads n 25 [35, but, (k : Int)] g = some (0, g2) ∧ (∀ i j, i ≠ 29 → g2 i j = g i j) ∧ ∀ j : Nat, (j : Int) < t 0 → g2 29 j = bgT t but (t 1).toNat j := by
  have w0 := hW.1
  have w1 := hW.2.1
  intro mm
  induction mm with
  | zero =>
    intro k n g e1 e2 H I
    obtain ⟨n, rfl⟩ : ∃ n', n = n' + 1 := ⟨n - 1, by omega⟩
    refine ⟨g, ?_, fun _ _ _ => rfl, fun j hj => ?_⟩
    · rw [e_X12_layAheads_25, H.2.2.2.2.1, if_neg (by omega)]
    · rw [I j hj, show (t 1).toNat = k by omega]
  | succ mm ih =>
    intro k n g e1 e2 H I
    obtain ⟨n, rfl⟩ : ∃ n', n = n' + 1 := ⟨n - 1, by omega⟩
    obtain ⟨b1, b2, -⟩ := hW.2.2.2 k (by omega)
    obtain ⟨c1, c2⟩ := hh.2 k (by omega) (by omega)
    have e : ∀ j, bgT t but (k + 1) j = if (j : Int) = t (21 + 2 * k) ∧ ¬ yari 7 (yari 6 but (k : Int)) 1 = 1 then yari 8 (bgT t but k j) (yari 5 1 (t (20 + 2 * k))) else bgT t but k j := fun _ => rfl
    by_cases c : yari 7 (yari 6 but (k : Int)) 1 = 1
    · obtain ⟨g2, f1, f2, f3⟩ := ih (k + 1) n g (by omega) (by omega) H (fun j hj => by
        rw [e, if_neg (fun w => w.2 c)]
        exact I j hj)
      refine ⟨g2, ?_, f2, f3⟩
      rw [e_X12_layAheads_25, H.2.2.2.2.1, if_pos (by omega), isIn_t c, xb_some, if_neg (by decide), xg_pos (by omega), show (k : Int) + 1 = ((k + 1 : Nat) : Int) by omega]
      exact f1
    · obtain ⟨s, es⟩ : ∃ s : Nat, t (21 + 2 * k) = (s : Int) := ⟨(t (21 + 2 * k)).toNat, by omega⟩
      have hs : g 29 s = bgT t but k s := I s (by omega)
      obtain ⟨g2, f1, f2, f3⟩ := ih (k + 1) n (zup g 29 s (yari 8 (g 29 s) (yari 5 1 (t (20 + 2 * k))))) (by omega) (by omega) (H.fr (fun a j w => zup_ne (by omega))) (fun j hj => by
        rw [e]
        by_cases y : j = s
        · rw [y, zup_at, if_pos ⟨es.symm, c⟩, hs]
        · rw [zup_ne (by omega), if_neg (fun w => y (by omega)), I j hj])
      refine ⟨g2, ?_, fun i j w => by rw [f2 i j w, zup_ne (by omega)], f3⟩
      have o1 := H.of (n := n) (j := 21 + 2 * k) (by omega)
      have o2 := H.of (n := n) (j := 20 + 2 * k) (by omega)
      have ob := bgT_b (but := but) hW k (by omega) s
      have or := or9 (k := (t (20 + 2 * k)).toNat) ob (by omega)
      rw [Int.toNat_of_nonneg b1.1, ← hs] at or
      rw [e_X12_layAheads_25, H.2.2.2.2.1, if_pos (by omega), isIn_f c, xb_some, if_pos rfl, xg_pos (H.2.1.p (j := 58) (k := 29) (by decide)), xg_pos (by omega), xg_pos (by omega), xg_pos (by omega), show (20 + 2 * (k : Int)) + 1 = ((21 + 2 * k : Nat) : Int) by omega, o1, xb_some, xg_pos (by omega), xg_pos (by omega), xg_pos (by omega), show 20 + 2 * (k : Int) = ((20 + 2 * k : Nat) : Int) by omega, o2, xb_some, xg_pos (by omega), es, Int.toNat_natCast, xg_pos or, xg_pos (by omega), show (k : Int) + 1 = ((k + 1 : Nat) : Int) by omega]
      exact f1
theorem lay1_l {d : Nat} {but : Int} {t : Nat → Int} (hW : tW2 t) (hh : wh2 t) : ∀ (mm s n : Nat) (g : yH), (mm : Int) + s = t 0 → mm + 24 < n → oR d t g → (∀ j, j < s → g 29 j = 0) →
    ∃ g2, xl_X12_layAheads n 2 [35, but, (s : Int)] g = some (0, g2) ∧ (∀ i j, i ≠ 29 → g2 i j = g i j) ∧ ∀ j : Nat, (j : Int) < t 0 → g2 29 j = bgT t but (t 1).toNat j := by
  have w0 := hW.1
  have w1 := hW.2.1
  intro mm
  induction mm with
  | zero =>
    intro s n g e1 e2 H I
    obtain ⟨n, rfl⟩ : ∃ n', n = n' + 1 := ⟨n - 1, by omega⟩
    have l := lay2_l (but := but) hW hh (t 1).toNat 0 n g (by omega) (by omega) H (fun j hj => I j (by omega))
    rw [e_X12_layAheads_2, H.2.2.2.1, if_neg (by omega)]
    exact l
  | succ mm ih =>
    intro s n g e1 e2 H I
    obtain ⟨n, rfl⟩ : ∃ n', n = n' + 1 := ⟨n - 1, by omega⟩
    obtain ⟨g2, f1, f2, f3⟩ := ih (s + 1) n (zup g 29 s 0) (by omega) (by omega) (H.fr (fun a j w => zup_ne (by omega))) (fun j hj => by
      by_cases y : j = s
      · rw [y, zup_at]
      · rw [zup_ne (by omega)]; exact I j (by omega))
    refine ⟨g2, ?_, fun i j w => by rw [f2 i j w, zup_ne (by omega)], f3⟩
    rw [e_X12_layAheads_2, H.2.2.2.1, if_pos (by omega), xg_pos (H.2.1.p (j := 58) (k := 29) (by decide)), xg_pos (by omega), xg_pos (by omega), Int.toNat_natCast, show (s : Int) + 1 = ((s + 1 : Nat) : Int) by omega]
    exact f1
theorem lay_e {n d : Nat} {but : Int} {t : Nat → Int} {g : yH} (hn : 40 ≤ n) (hW : tW2 t) (hh : wh2 t) (H : oR d t g) : ∃ g2, f_X12_layAheads n [35, but] g = some (0, g2) ∧ (∀ i j, i ≠ 29 → g2 i j = g i j) ∧ ∀ j : Nat, (j : Int) < t 0 → g2 29 j = bgT t but (t 1).toNat j := by
  have w0 := hW.1
  obtain ⟨g2, f1, f2⟩ := lay1_l (but := but) hW hh (t 0).toNat 0 n g (by omega) (by omega) H (fun j hj => by omega)
  rw [e_X12_layAheads]
  exact ⟨g2, f1, f2⟩
/-- the dispute in the reference's hand -/
def hO (d : Nat) (t : Nat → Int) (g g2 : yH) : Prop := oR d t g2 ∧ (∀ j : Nat, (j : Int) < t 0 → g2 29 j = bf t j) ∧ ∀ i j, i ≠ 29 → ¬ (i = 35 ∧ 55 ≤ j ∧ j ≤ 57) → g2 i j = g i j
theorem handD_e {n d : Nat} {t : Nat → Int} {g : yH} (hn : 40 ≤ n) (hd : d < 2) (hq : rQ g) (h4 : ∀ j, j < 12 → 0 ≤ g 4 j ∧ g 4 j ≤ 2) (hs : (d : Int) < g 4 2) (ht : ∀ j, j < 52 → g 7 (52 * d + j) = t j) (hW : tW2 t) (hh : wh2 t) : ∃ g2, f_X12_handDispute n [35, (d : Int)] g = some (1, g2) ∧ hO d t g g2 := by
  have w0 := hW.1
  have w1 := hW.2.1
  have q1 : rQ (zup g 35 55 (d : Int)) := hq.up (Or.inr (by decide))
  have q2 : rQ (zup (zup g 35 55 (d : Int)) 35 56 (t 0)) := q1.up (Or.inr (by decide))
  have q3 : rQ (zup (zup (zup g 35 55 (d : Int)) 35 56 (t 0)) 35 57 (t 1)) := q2.up (Or.inr (by decide))
  have o1 := ofD_e (n := n) (j := 0) (t := t) q1 hd (zup_at _ _ _ _) (fun j hj => by rw [zup_ne (by omega)]; exact ht j hj) (by decide)
  have o2 := ofD_e (n := n) (j := 1) (t := t) q2 hd (by rw [zup_ne (by omega), zup_at]) (fun j hj => by rw [zup_ne (by omega), zup_ne (by omega)]; exact ht j hj) (by decide)
  have H3 : oR d t (zup (zup (zup g 35 55 (d : Int)) 35 56 (t 0)) 35 57 (t 1)) := ⟨hd, q3, by rw [zup_ne (by omega), zup_ne (by omega), zup_at], by rw [zup_ne (by omega), zup_at], zup_at _ _ _ _, fun j hj => by rw [zup_ne (by omega), zup_ne (by omega), zup_ne (by omega)]; exact ht j hj⟩
  obtain ⟨g2, f1, f2, f3⟩ := lay_e (n := n) (but := 0) hn hW hh H3
  refine ⟨g2, ?_, H3.fr (fun a j w => f2 a j (by omega)), fun j hj => ?_, fun i j w1 w2 => by rw [f2 i j w1, zup_ne (by omega), zup_ne (by omega), zup_ne (by omega)]⟩
  · rw [show ((0 : Nat) : Int) = 0 from rfl] at o1
    rw [show ((1 : Nat) : Int) = 1 from rfl] at o2
    rw [e_X12_handDispute, is_e (s := 2) (hq.p (j := 5) (k := 4) (by decide)) (by decide) (h4 2 (by decide)), xb_some, show g 4 (2 : Int).toNat = g 4 2 from rfl, if_pos (show 0 ≤ (d : Int) ∧ (d : Int) < g 4 2 by omega), if_neg (by decide), xg_pos (by omega), o1, xb_some, xg_pos w0, o2, xb_some, xg_pos w1, f1, xb_some]
  · rw [f3 j hj, bgT_0 _ (by omega)]
    rfl
theorem handD_n {n : Nat} {x : Int} {g : yH} (hq : rQ g) (h4 : ∀ j, j < 12 → 0 ≤ g 4 j ∧ g 4 j ≤ 2) (hs : ¬ (0 ≤ x ∧ x < g 4 2)) : f_X12_handDispute n [35, x] g = some (0, g) := by
  rw [e_X12_handDispute, is_e (s := 2) (hq.p (j := 5) (k := 4) (by decide)) (by decide) (h4 2 (by decide)), xb_some, show g 4 (2 : Int).toNat = g 4 2 from rfl, if_neg hs, if_pos rfl]
/-- an order of any sets -/
def nxB (bh : Nat → Int) (p : Int) : Nat → Nat → Int
  | 0, _ => -1
  | m + 1, s => if yari 7 (yari 6 p (s : Int)) 1 = 0 ∧ yari 7 (bh s) (yari 9 p (-1)) = 0 then (s : Int) else nxB bh p m (s + 1)
theorem nxB_s {bh : Nat → Int} {p : Int} {m s : Nat} : nxB bh p (m + 1) s = if yari 7 (yari 6 p (s : Int)) 1 = 0 ∧ yari 7 (bh s) (yari 9 p (-1)) = 0 then (s : Int) else nxB bh p m (s + 1) := rfl
theorem nxB_A {t : Nat → Int} {p : Int} : ∀ m s, nxB (bf t) p m s = nxA t p m s := by
  intro m
  induction m with
  | zero => intro s; rfl
  | succ m ih =>
    intro s
    rw [nxB_s, nxA_s, ih]
theorem nxB_b {bh : Nat → Int} {p : Int} : ∀ m s, nxB bh p m s = -1 ∨ ∃ x : Nat, nxB bh p m s = (x : Int) ∧ s ≤ x ∧ x < s + m := by
  intro m
  induction m with
  | zero => intro s; exact Or.inl rfl
  | succ m ih =>
    intro s
    rw [nxB_s]
    by_cases c : yari 7 (yari 6 p (s : Int)) 1 = 0 ∧ yari 7 (bh s) (yari 9 p (-1)) = 0
    · rw [if_pos c]
      exact Or.inr ⟨s, rfl, by omega, by omega⟩
    · rw [if_neg c]
      rcases ih (s + 1) with w | ⟨x, w1, w2, w3⟩
      · exact Or.inl w
      · exact Or.inr ⟨x, w1, by omega, by omega⟩
def plB (bh : Nat → Int) (N : Nat) : Nat → Int
  | 0 => 0
  | i + 1 => yari 8 (plB bh N i) (yari 5 1 (nxB bh (plB bh N i) N 0))
def odB (bh : Nat → Int) (N i : Nat) : Int := nxB bh (plB bh N i) N 0
theorem plB_A {t : Nat → Int} : ∀ i, plB (bf t) (t 0).toNat i = plV t i := by
  intro i
  induction i with
  | zero => rfl
  | succ i ih =>
    show yari 8 (plB (bf t) (t 0).toNat i) (yari 5 1 (nxB (bf t) (plB (bf t) (t 0).toNat i) (t 0).toNat 0)) = yari 8 (plV t i) (yari 5 1 (nxA t (plV t i) (t 0).toNat 0))
    rw [ih, nxB_A]
theorem odB_A {t : Nat → Int} {i : Nat} : odB (bf t) (t 0).toNat i = odV t i := by
  unfold odB odV
  rw [plB_A, nxB_A]
theorem nxR_l {d i : Nat} {p : Int} {t : Nat → Int} {g : yH} {bh : Nat → Int} (hW : tW2 t) (H : oR d t g) (I : ∀ j : Nat, (j : Int) < t 0 → g 29 j = bh j) : ∀ (mm s n : Nat), (mm : Int) + s = t 0 → mm < n → ∃ (n' : Nat), xl_X12_layFirst n 14 [35, p, (i : Int), (s : Int)] g = xq_X12_layFirst_49 n' (xl_X12_layFirst n') [35, p, (i : Int), if nxB bh p mm s = -1 then t 0 else nxB bh p mm s] g ∧ n ≤ n' + mm + 1 := by
  have w0 := hW.1
  intro mm
  induction mm with
  | zero =>
    intro s n e1 e2
    obtain ⟨n, rfl⟩ : ∃ n', n = n' + 1 := ⟨n - 1, by omega⟩
    have e : nxB bh p 0 s = -1 := rfl
    refine ⟨n, ?_, by omega⟩
    rw [e_X12_layFirst_14, H.2.2.2.1, if_neg (by omega), e, if_pos rfl, show t 0 = (s : Int) by omega]
  | succ mm ih =>
    intro s n e1 e2
    obtain ⟨n, rfl⟩ : ∃ n', n = n' + 1 := ⟨n - 1, by omega⟩
    have hs : g 29 s = bh s := I s (by omega)
    obtain ⟨n', f1, f2⟩ := ih (s + 1) n (by omega) (by omega)
    have en : (s : Int) + 1 = ((s + 1 : Nat) : Int) := by omega
    rw [e_X12_layFirst_14, H.2.2.2.1, if_pos (by omega), nxB_s]
    rcases sb_c (x := p) (c := s) (by omega) with ⟨c, -⟩ | ⟨c, -⟩
    · rw [isIn_t c, xb_some, if_neg (by decide), xg_pos (by omega), en]
      refine ⟨n', ?_, by omega⟩
      rw [f1]
      have z : ¬ (yari 7 (yari 6 p (s : Int)) 1 = 0 ∧ yari 7 (bh s) (yari 9 p (-1)) = 0) := fun w => by rw [c] at w; exact absurd w.1 (by decide)
      rw [if_neg z]
    · rw [isIn_f (by rw [c]; decide), xb_some, if_pos rfl, xg_pos (H.2.1.p (j := 58) (k := 29) (by decide)), xg_pos (by omega), Int.toNat_natCast, hs]
      by_cases c2 : yari 7 (bh s) (yari 9 p (-1)) = 0
      · refine ⟨n, ?_, by omega⟩
        rw [if_pos c2]
        have z : (yari 7 (yari 6 p (s : Int)) 1 = 0 ∧ yari 7 (bh s) (yari 9 p (-1)) = 0) := ⟨c, c2⟩
        rw [if_pos z, if_neg (by omega)]
      · refine ⟨n', ?_, by omega⟩
        rw [if_neg c2, xg_pos (by omega), en, f1]
        have z : ¬ (yari 7 (yari 6 p (s : Int)) 1 = 0 ∧ yari 7 (bh s) (yari 9 p (-1)) = 0) := fun w => c2 w.2
        rw [if_neg z]
theorem lfR_l {d : Nat} {t : Nat → Int} {bh : Nat → Int} (hW : tW2 t) : ∀ (mm i n : Nat) (g : yH), (mm : Int) + i = t 0 → 20 * mm + 20 ≤ n → oR d t g → (∀ j : Nat, (j : Int) < t 0 → g 29 j = bh j) →
    ∃ v g2, xl_X12_layFirst n 4 [35, plB bh (t 0).toNat i, (i : Int)] g = some (v, g2) ∧ (∀ a j, a ≠ 33 → g2 a j = g a j) ∧ (∀ j, j < i → g2 33 j = g 33 j) ∧ ((v = 1 ∧ ∀ j : Nat, i ≤ j → (j : Int) < t 0 → odB bh (t 0).toNat j ≠ -1 ∧ g2 33 j = odB bh (t 0).toNat j) ∨ (v = 0 ∧ ∃ j : Nat, (i ≤ j ∧ (j : Int) < t 0) ∧ odB bh (t 0).toNat j = -1)) := by
  have w0 := hW.1
  intro mm
  induction mm with
  | zero =>
    intro i n g e1 e2 H I
    obtain ⟨n, rfl⟩ : ∃ n', n = n' + 1 := ⟨n - 1, by omega⟩
    refine ⟨1, g, ?_, fun _ _ _ => rfl, fun _ _ => rfl, Or.inl ⟨rfl, fun j w1 w2 => by omega⟩⟩
    rw [e_X12_layFirst_4, H.2.2.2.1, if_neg (by omega)]
  | succ mm ih =>
    intro i n g e1 e2 H I
    obtain ⟨n, rfl⟩ : ∃ n', n = n' + 1 := ⟨n - 1, by omega⟩
    obtain ⟨n1, p1, p2⟩ := nxR_l (i := i) (p := plB bh (t 0).toNat i) hW H I (t 0).toNat 0 n (by omega) (by omega)
    rw [show ((0 : Nat) : Int) = 0 from rfl] at p1
    have eo : nxB bh (plB bh (t 0).toNat i) (t 0).toNat 0 = odB bh (t 0).toNat i := rfl
    rw [eo] at p1
    rw [e_X12_layFirst_4, H.2.2.2.1, if_pos (by omega), p1, e_X12_layFirst_49, H.2.2.2.1]
    by_cases c : odB bh (t 0).toNat i = -1
    · rw [if_pos c, if_pos rfl]
      exact ⟨0, g, rfl, fun _ _ _ => rfl, fun _ _ => rfl, Or.inr ⟨rfl, i, by omega, c⟩⟩
    · have ob : 0 ≤ odB bh (t 0).toNat i ∧ odB bh (t 0).toNat i < t 0 := by
        rcases nxB_b (bh := bh) (p := plB bh (t 0).toNat i) (t 0).toNat 0 with w | ⟨x, w1, w2, w3⟩
        · exact absurd w c
        · rw [eo] at w1
          omega
      obtain ⟨v, g2, f1, f2, f3, f4⟩ := ih (i + 1) n1 (zup g 33 i (odB bh (t 0).toNat i)) (by omega) (by omega) (H.fr (fun a j w => zup_ne (by omega))) (fun j hj => by rw [zup_ne (by omega)]; exact I j hj)
      refine ⟨v, g2, ?_, fun a j w => by rw [f2 a j w, zup_ne (by omega)], fun j hj => by rw [f3 j (by omega), zup_ne (by omega)], ?_⟩
      · have e : plB bh (t 0).toNat (i + 1) = yari 8 (plB bh (t 0).toNat i) (yari 5 1 (odB bh (t 0).toNat i)) := rfl
        rw [if_neg c, if_neg (by omega), xg_pos (H.2.1.p (j := 62) (k := 33) (by decide)), xg_pos (by omega), xg_pos (by omega), xg_pos (by omega), Int.toNat_natCast, show (i : Int) + 1 = ((i + 1 : Nat) : Int) by omega, ← e]
        exact f1
      · rcases f4 with ⟨f4, f5⟩ | ⟨f4, j, f5, f6⟩
        · refine Or.inl ⟨f4, fun j w1 w2 => ?_⟩
          by_cases z : j = i
          · rw [z, f3 i (by omega), zup_at]
            exact ⟨c, rfl⟩
          · exact f5 j (by omega) w2
        · exact Or.inr ⟨f4, j, by omega, f6⟩
theorem lfR_e {n d : Nat} {t : Nat → Int} {g : yH} {bh : Nat → Int} (hn : 300 ≤ n) (hW : tW2 t) (H : oR d t g) (I : ∀ j : Nat, (j : Int) < t 0 → g 29 j = bh j) : ∃ v g2, f_X12_layFirst n [35] g = some (v, g2) ∧ (∀ a j, a ≠ 33 → g2 a j = g a j) ∧ ((v = 1 ∧ ∀ j : Nat, (j : Int) < t 0 → odB bh (t 0).toNat j ≠ -1 ∧ g2 33 j = odB bh (t 0).toNat j) ∨ (v = 0 ∧ ∃ j : Nat, (j : Int) < t 0 ∧ odB bh (t 0).toNat j = -1)) := by
  have w0 := hW.1
  obtain ⟨v, g2, f1, f2, -, f4⟩ := lfR_l (bh := bh) hW (t 0).toNat 0 n g (by omega) (by omega) H I
  refine ⟨v, g2, ?_, f2, ?_⟩
  · rw [e_X12_layFirst]
    exact f1
  · rcases f4 with ⟨f4, f5⟩ | ⟨f4, j, f5, f6⟩
    · exact Or.inl ⟨f4, fun j hj => f5 j (Nat.zero_le _) hj⟩
    · exact Or.inr ⟨f4, j, f5.2, f6⟩
/-- the reference's first order -/
theorem lfR_o {n d : Nat} {t : Nat → Int} {g : yH} (hn : 300 ≤ n) (hW : tW2 t) (H : oR d t g) (I : ∀ j : Nat, (j : Int) < t 0 → g 29 j = bf t j) : ∃ v g2, f_X12_layFirst n [35] g = some (v, g2) ∧ (∀ a j, a ≠ 33 → g2 a j = g a j) ∧ ((v = 1 ∧ odR t ∧ ∀ j : Nat, (j : Int) < t 0 → g2 33 j = odV t j) ∨ (v = 0 ∧ ¬ odR t)) := by
  obtain ⟨v, g2, f1, f2, f3⟩ := lfR_e hn hW H I
  refine ⟨v, g2, f1, f2, ?_⟩
  rcases f3 with ⟨f4, f5⟩ | ⟨f4, j, f5, f6⟩
  · exact Or.inl ⟨f4, fun j hj => by rw [← odB_A]; exact (f5 j hj).1, fun j hj => by rw [← odB_A]; exact (f5 j hj).2⟩
  · exact Or.inr ⟨f4, fun w => w j f5 (by rw [← odB_A]; exact f6)⟩
end
section
/-! the hours of sayings: both sides in step -/
theorem zup_se {g : yH} {a j : Nat} : zup g a j (g a j) = g := by
  funext a' j'
  by_cases w : a' = a ∧ j' = j
  · rw [w.1, w.2, zup_at]
  · rw [zup_ne w]
theorem h47_l {b i k : Nat} {fit : Int} {t : Nat → Int} {h : yH} (hW : tW2 t) (ho : odR t) (H : oC b t h) (A : odA t h) (hi : (i : Int) < t 0) (hk : k < 9) (bd : ∀ j x : Nat, j < i → odV t j = (x : Int) → 0 ≤ h 181 x ∧ h 181 x ≤ 200) : ∀ (mm j n : Nat) (v : Int), mm + j = i → mm ≤ n →
    ∃ n' v', xl_X3_findHours n 47 [180, (b : Int), t 0, fit, (i : Int), (k : Int), v, (j : Int)] h = xl_X3_findHours n' 47 [180, (b : Int), t 0, fit, (i : Int), (k : Int), v', (i : Int)] h ∧ n = n' + mm ∧ ∀ w : Int, v' ≤ w ↔ (v ≤ w ∧ ∀ j' x : Nat, j ≤ j' → j' < i → odV t j' = (x : Int) → sbt (bf t k) x = true → h 181 x + 1 ≤ w) := by
  have w0 := hW.1
  intro mm
  induction mm with
  | zero =>
    intro j n v e1 e2
    refine ⟨n, v, by rw [show j = i by omega], by omega, fun w => ⟨fun q => ⟨q, fun j' x q1 q2 => by omega⟩, fun q => q.1⟩⟩
  | succ mm ih =>
    intro j n v e1 e2
    obtain ⟨n, rfl⟩ : ∃ n', n = n' + 1 := ⟨n - 1, by omega⟩
    obtain ⟨x, x1, x2, -⟩ := od_c hW (ho j (by omega))
    have a3 := A.1 k hk
    have a4 := A.2 j (by omega)
    have bx := bd j x (by omega) x1
    have o := H.2.2.2
    have ej : (j : Int) + 1 = ((j + 1 : Nat) : Int) := by omega
    rw [e_X3_findHours_47, if_pos (by omega), xg_pos o.2.2.1, xg_pos (by omega), xg_pos o.2.2.2.1, xg_pos (by omega), Int.toNat_natCast, Int.toNat_natCast, a3, a4, x1, Int.toNat_natCast]
    rcases sb_c (x := bf t k) (c := x) (by omega) with ⟨c, c2⟩ | ⟨c, c2⟩
    · obtain ⟨n', v', f1, f2, f3⟩ := ih (j + 1) n (max v (h 181 x + 1)) (by omega) (by omega)
      rw [if_pos c, xg_pos o.1, xg_pos o.2.2.2.1, xg_pos (by omega), xg_pos (by omega), xg_pos (by omega), xg_pos (by omega), ej]
      refine ⟨n', v', f1, by omega, fun w => (f3 w).trans ⟨fun ⟨q1, q2⟩ => ⟨by omega, fun j' y p1 p2 p3 p4 => ?_⟩, fun ⟨q1, q2⟩ => ⟨?_, fun j' y p1 p2 => q2 j' y (by omega) p2⟩⟩⟩
      · by_cases z : j' = j
        · rw [z] at p3
          have : y = x := by omega
          rw [this]
          omega
        · exact q2 j' y (by omega) p2 p3 p4
      · have := q2 j x (Nat.le_refl _) (by omega) x1 c2
        omega
    · obtain ⟨n', v', f1, f2, f3⟩ := ih (j + 1) n v (by omega) (by omega)
      rw [if_neg (by rw [c]; decide), xg_pos (by omega), ej]
      refine ⟨n', v', f1, by omega, fun w => (f3 w).trans ⟨fun ⟨q1, q2⟩ => ⟨q1, fun j' y p1 p2 p3 p4 => ?_⟩, fun ⟨q1, q2⟩ => ⟨q1, fun j' y p1 p2 => q2 j' y (by omega) p2⟩⟩⟩
      by_cases z : j' = j
      · rw [z] at p3
        have : y = x := by omega
        rw [this, c2] at p4
        cases p4
      · exact q2 j' y (by omega) p2 p3 p4
theorem h46_l {d i k : Nat} {fit : Int} {t : Nat → Int} (hW : tW2 t) (hk : k < 9) (nk : sbt (bf t k) k = false) : ∀ (mm a n : Nat) (g : yH), (mm : Int) + a = t 0 → mm ≤ n → oR d t g → (∀ j : Nat, (j : Int) < t 0 → g 29 j = bf t j) → (k : Int) < t 0 → (∀ a' : Nat, (a' : Int) < t 0 → sbt (bf t k) a' = true → 0 ≤ g 31 a' ∧ g 31 a' ≤ 200) →
    ∃ n' g2, xl_X12_findHours n 46 [35, fit, (i : Int), (k : Int), (a : Int)] g = xl_X12_findHours n' 46 [35, fit, (i : Int), (k : Int), t 0] g2 ∧ n = n' + mm ∧ (∀ i j, ¬ (i = 31 ∧ j = k) → g2 i j = g i j) ∧ ∀ w : Int, g2 31 k ≤ w ↔ (g 31 k ≤ w ∧ ∀ a' : Nat, a ≤ a' → (a' : Int) < t 0 → sbt (bf t k) a' = true → g 31 a' + 1 ≤ w) := by
  have w0 := hW.1
  intro mm
  induction mm with
  | zero =>
    intro a n g e1 e2 H I hk2 bd
    refine ⟨n, g, by rw [show (a : Int) = t 0 by omega], by omega, fun _ _ _ => rfl, fun w => ⟨fun q => ⟨q, fun a' q1 q2 => by omega⟩, fun q => q.1⟩⟩
  | succ mm ih =>
    intro a n g e1 e2 H I hk2 bd
    obtain ⟨n, rfl⟩ : ∃ n', n = n' + 1 := ⟨n - 1, by omega⟩
    have P : ∀ {j : Nat} {kk : Int}, (j, kk) ∈ rQL → g 35 j = kk := fun hm => H.2.1.p hm
    have p58 := P (j := 58) (kk := 29) (by decide)
    have p60 := P (j := 60) (kk := 31) (by decide)
    have ik := I k hk2
    have ea : (a : Int) + 1 = ((a + 1 : Nat) : Int) := by omega
    rw [e_X12_findHours_46, H.2.2.2.1, if_pos (by omega), xg_pos p60, xg_pos p58, xg_pos (by omega), Int.toNat_natCast, Int.toNat_natCast, ik]
    rcases sb_c (x := bf t k) (c := a) (by omega) with ⟨c, c2⟩ | ⟨c, c2⟩
    · have na : a ≠ k := fun w => by
        rw [w, nk] at c2
        cases c2
      have ba := bd a (by omega) c2
      have key : ∀ v : Int, v = max (g 31 k) (g 31 a + 1) → ∃ n' g2, xl_X12_findHours n 46 [35, fit, (i : Int), (k : Int), ((a + 1 : Nat) : Int)] (zup g 31 k v) = xl_X12_findHours n' 46 [35, fit, (i : Int), (k : Int), t 0] g2 ∧ n + 1 = n' + (mm + 1) ∧ (∀ i j, ¬ (i = 31 ∧ j = k) → g2 i j = g i j) ∧ ∀ w : Int, g2 31 k ≤ w ↔ (g 31 k ≤ w ∧ ∀ a' : Nat, a ≤ a' → (a' : Int) < t 0 → sbt (bf t k) a' = true → g 31 a' + 1 ≤ w) := fun v ev => by
        have nek : ∀ a' : Nat, sbt (bf t k) a' = true → zup g 31 k v 31 a' = g 31 a' := fun a' q => zup_ne (fun w => by
          rw [w.2, nk] at q
          cases q)
        obtain ⟨n', g2, f1, f2, f3, f4⟩ := ih (a + 1) n (zup g 31 k v) (by omega) (by omega) (H.fr (fun a j w => zup_ne (by omega))) (fun j hj => by rw [zup_ne (by omega)]; exact I j hj) hk2 (fun a' q1 q2 => by rw [nek a' q2]; exact bd a' q1 q2)
        refine ⟨n', g2, f1, by omega, fun i j w => by rw [f3 i j w, zup_ne w], fun w => (f4 w).trans ⟨fun ⟨q1, q2⟩ => ?_, fun ⟨q1, q2⟩ => ?_⟩⟩
        · rw [zup_at] at q1
          refine ⟨by omega, fun a' p1 p2 p3 => ?_⟩
          by_cases z : a' = a
          · rw [z]; omega
          · have := q2 a' (by omega) p2 p3
            rw [nek a' p3] at this
            exact this
        · rw [zup_at]
          have := q2 a (Nat.le_refl _) (by omega) c2
          refine ⟨by omega, fun a' p1 p2 p3 => ?_⟩
          rw [nek a' p3]
          exact q2 a' (by omega) p2 p3
      rw [isIn_t c, xb_some, if_neg (by decide), xg_pos p60, xg_pos (by omega), xg_pos p60, xg_pos (by omega), xg_pos (by omega), e_X12_greater]
      by_cases z : g 31 a + 1 < g 31 k
      · rw [if_pos z, xb_some, xg_pos (by omega), xg_pos (by omega), ea]
        exact key _ (by omega)
      · rw [if_neg z, xb_some, xg_pos (by omega), xg_pos (by omega), ea]
        exact key _ (by omega)
    · obtain ⟨n', g2, f1, f2, f3, f4⟩ := ih (a + 1) n g (by omega) (by omega) H I hk2 bd
      rw [isIn_f (by rw [c]; decide), xb_some, if_pos rfl, xg_pos p60, xg_pos (by omega), xg_pos (by omega), xg_pos (by omega), zup_se, ea]
      refine ⟨n', g2, f1, by omega, f3, fun w => (f4 w).trans ⟨fun ⟨q1, q2⟩ => ⟨q1, fun a' p1 p2 p3 => ?_⟩, fun ⟨q1, q2⟩ => ⟨q1, fun a' p1 => q2 a' (by omega)⟩⟩⟩
      by_cases z : a' = a
      · rw [z, c2] at p3
        cases p3
      · exact q2 a' (by omega) p2 p3
/-- the earliest hours of the first i -/
def eaI (t : Nat → Int) (i : Nat) (h g : yH) (fit : Int) : Prop := ∀ j x : Nat, j < i → odV t j = (x : Int) → h 181 x = g 31 x ∧ (0 ≤ h 181 x ∧ h 181 x ≤ 99 + (j : Int)) ∧ (fit = 1 → h 181 x ≤ t (3 + 2 * x)) ∧ ∀ c, c < 32 → sbt (bf t x) c = true → h 181 c + 1 ≤ h 181 x
theorem le_eq {a b : Int} (h : ∀ w : Int, a ≤ w ↔ b ≤ w) : a = b := by
  have h1 := (h a).mp (Int.le_refl _)
  have h2 := (h b).mpr (Int.le_refl _)
  omega
theorem ge_eq {a b : Int} (h : ∀ w : Int, w ≤ a ↔ w ≤ b) : a = b := by
  have h1 := (h a).mp (Int.le_refl _)
  have h2 := (h b).mpr (Int.le_refl _)
  omega
theorem ear_l {b d : Nat} {t : Nat → Int} (hW : tW2 t) (ho : odR t) : ∀ (mm i n m : Nat) (h g : yH) (fit : Int), (mm : Int) + i = t 0 → 20 * mm + 20 ≤ n → 20 * mm + 20 ≤ m → (fit = 0 ∨ fit = 1) → oC b t h → odA t h → oR d t g → (∀ j : Nat, (j : Int) < t 0 → g 29 j = bf t j ∧ g 33 j = odV t j) → eaI t i h g fit →
    ∃ n' m' fit' h2 g2, xl_X3_findHours n 20 [180, (b : Int), t 0, fit, (i : Int)] h = xl_X3_findHours n' 144 [180, (b : Int), t 0, fit', t 0 - 1] h2 ∧ xl_X12_findHours m 13 [35, fit, (i : Int)] g = xl_X12_findHours m' 151 [35, fit', t 0 - 1] g2 ∧ (n ≤ n' + 20 * mm + 1 ∧ m ≤ m' + 20 * mm + 1) ∧ (∀ a j, a ≠ 181 → h2 a j = h a j) ∧ (∀ a j, a ≠ 31 → g2 a j = g a j) ∧ (fit' = 0 ∨ fit' = 1) ∧ eaI t (t 0).toNat h2 g2 fit' := by
  have w0 := hW.1
  intro mm
  induction mm with
  | zero =>
    intro i n m h g fit e1 e2 e3 hf H A HR I J
    obtain ⟨n, rfl⟩ : ∃ n', n = n' + 1 := ⟨n - 1, by omega⟩
    obtain ⟨m, rfl⟩ : ∃ m', m = m' + 1 := ⟨m - 1, by omega⟩
    refine ⟨n, m, fit, h, g, ?_, ?_, by omega, fun _ _ _ => rfl, fun _ _ _ => rfl, hf, by rw [show (t 0).toNat = i by omega]; exact J⟩
    · rw [e_X3_findHours_20, if_neg (by omega), xg_pos (by omega)]
    · rw [e_X12_findHours_13, HR.2.2.2.1, if_neg (by omega), xg_pos (by omega)]
  | succ mm ih =>
    intro i n m h g fit e1 e2 e3 hf H A HR I J
    obtain ⟨n, rfl⟩ : ∃ n', n = n' + 1 := ⟨n - 1, by omega⟩
    obtain ⟨m, rfl⟩ : ∃ m', m = m' + 1 := ⟨m - 1, by omega⟩
    obtain ⟨k, k1, k2, -⟩ := od_c hW (ho i (by omega))
    have o := H.2.2.2
    have P : ∀ {j : Nat} {kk : Int}, (j, kk) ∈ rQL → g 35 j = kk := fun hm => HR.2.1.p hm
    have p60 := P (j := 60) (kk := 31) (by decide)
    have a4 := A.2 i (by omega)
    obtain ⟨-, i3⟩ := I i (by omega)
    obtain ⟨tb1, tb2, -⟩ := hW.2.2.1 k (by omega)
    -- what is ahead of it has its place
    have pre : ∀ c, c < 32 → sbt (bf t k) c = true → ∃ j, j < i ∧ odV t j = (c : Int) := fun c hc hb => od_b hW ho (by omega) k1 hc hb
    have nk : sbt (bf t k) k = false := by
      cases q : sbt (bf t k) k with
      | false => rfl
      | true =>
        obtain ⟨j, j1, j2⟩ := pre k (by omega) q
        exact absurd (od_i hW ho (i := j) (j := i) (by omega) (by omega) (by omega)) (by omega)
    have r1 := (H.2.1.2.2.1 k k2).1
    have r2 := (H.2.1.2.2.1 k k2).2
    -- the class's hour
    obtain ⟨n1, v, c1, c2, c3⟩ := h47_l (k := k) (fit := fit) hW ho H A (show (i : Int) < t 0 by omega) (by omega) (fun j x q1 q2 => by
      have := (J j x q1 q2).2.1
      omega) i 0 n (t (2 + 2 * k)) (by omega) (by omega)
    -- the reference's
    have R0 : oR d t (zup g 31 k (t (2 + 2 * k))) := HR.fr (fun a j w => zup_ne (by omega))
    obtain ⟨m1, g1, d1, d2, d3, d4⟩ := h46_l (d := d) (i := i) (fit := fit) hW (show k < 9 by omega) nk (t 0).toNat 0 m (zup g 31 k (t (2 + 2 * k))) (by omega) (by omega) R0 (fun j hj => by rw [zup_ne (by omega)]; exact (I j hj).1) k2 (fun a' q1 q2 => by
      obtain ⟨j, j1, j2⟩ := pre a' (by omega) q2
      have z : a' ≠ k := fun w => by rw [w, nk] at q2; cases q2
      rw [zup_ne (by omega)]
      have := J j a' j1 j2
      omega)
    have ev : v = g1 31 k := le_eq (fun w => (c3 w).trans (Iff.trans ⟨fun ⟨q1, q2⟩ => ⟨by rw [zup_at]; exact q1, fun a' p1 p2 p3 => by
        obtain ⟨j, j1, j2⟩ := pre a' (by omega) p3
        have z : a' ≠ k := fun w => by rw [w, nk] at p3; cases p3
        have := q2 j a' (Nat.zero_le _) j1 j2 p3
        rw [zup_ne (by omega), ← (J j a' j1 j2).1]
        exact this⟩, fun ⟨q1, q2⟩ => ⟨by rw [zup_at] at q1; exact q1, fun j x p1 p2 p3 p4 => by
        have xb : (x : Int) < t 0 := by
          obtain ⟨x', x1, x2, -⟩ := od_c hW (ho j (by omega))
          omega
        have z : x ≠ k := fun w => by rw [w, nk] at p4; cases p4
        have := q2 x (Nat.zero_le _) xb p4
        rw [zup_ne (by omega), ← (J j x p2 p3).1] at this
        exact this⟩⟩ (d4 w).symm))
    have vlo : t (2 + 2 * k) ≤ v := ((c3 v).mp (Int.le_refl _)).1
    have vhi : v ≤ 99 + (i : Int) := (c3 _).mpr ⟨by omega, fun j x p1 p2 p3 p4 => by
      have := (J j x p2 p3).2.1
      omega⟩
    have vsu : ∀ c, c < 32 → sbt (bf t k) c = true → h 181 c + 1 ≤ v := fun c hc hb => by
      obtain ⟨j, j1, j2⟩ := pre c hc hb
      exact ((c3 v).mp (Int.le_refl _)).2 j c (Nat.zero_le _) j1 j2 hb
    -- behind it
    obtain ⟨fit', ef⟩ : ∃ fit' : Int, fit' = if fit = 0 then 0 else if t (3 + 2 * k) < v then 0 else 1 := ⟨_, rfl⟩
    have hf' : fit' = 0 ∨ fit' = 1 := by
      rw [ef]
      by_cases z : fit = 0
      · rw [if_pos z]; exact Or.inl rfl
      · rw [if_neg z]
        by_cases z2 : t (3 + 2 * k) < v
        · rw [if_pos z2]; exact Or.inl rfl
        · rw [if_neg z2]; exact Or.inr rfl
    have hf1 : fit' = 1 → fit = 1 ∧ v ≤ t (3 + 2 * k) := fun w => by
      by_cases z : fit = 0
      · rw [if_pos z] at ef; omega
      · rw [if_neg z] at ef
        by_cases z2 : t (3 + 2 * k) < v
        · rw [if_pos z2] at ef; omega
        · omega
    have J1 : eaI t (i + 1) (zup h 181 k v) g1 fit' := fun j x q1 q2 => by
      by_cases z : j = i
      · rw [z] at q2
        have zx : x = k := by omega
        subst zx
        rw [zup_at]
        refine ⟨ev, by omega, fun w => (hf1 w).2, fun c hc hb => ?_⟩
        have y : c ≠ x := fun w => by rw [w, nk] at hb; cases hb
        rw [zup_ne (by omega)]
        exact vsu c hc hb
      · have zx : x ≠ k := fun w => absurd (od_i hW ho (i := j) (j := i) (by omega) (by omega) (by omega)) z
        obtain ⟨u1, u2, u3, u4⟩ := J j x (by omega) q2
        rw [zup_ne (by omega), d3 31 x (by omega), zup_ne (by omega)]
        refine ⟨u1, u2, fun w => u3 (hf1 w).1, fun c hc hb => ?_⟩
        obtain ⟨j', y1, y2⟩ := od_b hW ho (by omega) q2 hc hb
        have y : c ≠ k := fun w => by
          have := od_i hW ho (i := j') (j := i) (by omega) (by omega) (by omega)
          omega
        rw [zup_ne (by omega)]
        exact u4 c hc hb
    have F1 : oR d t g1 := R0.fr (fun a j w => d3 a j (by omega))
    obtain ⟨n', m', fit2, h2, g2, f1, f2, f3, f4, f5, f6, f7⟩ := ih (i + 1) (n1 - 1) (m1 - 1) (zup h 181 k v) g1 fit' (by omega) (by omega) (by omega) hf' (H.fr (fun a j w => zup_ne (by omega))) ⟨fun j hj => by rw [zup_ne (by omega)]; exact A.1 j hj, fun j hj => by rw [zup_ne (by omega)]; exact A.2 j hj⟩ F1 (fun j hj => by rw [d3 29 j (by omega), d3 33 j (by omega), zup_ne (by omega), zup_ne (by omega)]; exact I j hj) J1
    have ei : (i : Int) + 1 = ((i + 1 : Nat) : Int) := by omega
    obtain ⟨n2, en⟩ : ∃ n2, n1 = n2 + 1 := ⟨n1 - 1, by omega⟩
    obtain ⟨m2, em⟩ : ∃ m2, m1 = m2 + 1 := ⟨m1 - 1, by omega⟩
    have bb := H.1
    have e1' : ((b : Int) + 1).toNat = b + 1 := by omega
    have e2' : ((b : Int) + 2).toNat = b + 2 := by omega
    rw [show ((0 : Nat) : Int) = 0 from rfl] at c1 d1
    refine ⟨n', m', fit2, h2, g2, ?_, ?_, by omega, fun a j w => by rw [f4 a j w, zup_ne (by omega)], fun a j w => by rw [f5 a j w, d3 a j (by omega), zup_ne (by omega)], f6, f7⟩
    · refine Eq.trans ?_ f1
      rw [e_X3_findHours_20, if_pos (by omega), xg_pos o.2.2.2.1, xg_pos (by omega), Int.toNat_natCast, Int.toNat_natCast, xg_pos H.2.2.1.1, a4, k1, xg_pos (by omega), Int.toNat_natCast, e1', r1, c1, en, e_X3_findHours_47, if_neg (Int.lt_irrefl _), xg_pos o.1, xg_pos (by omega), Int.toNat_natCast, Int.toNat_natCast, e2', ef]
      show _ = xl_X3_findHours n2 20 _ _
      by_cases z : fit = 0
      · rw [if_pos z, if_pos z, xg_pos (by omega), ei]
      · rw [if_neg z, if_neg z, zup_ne (show ¬ (b = 181 ∧ 2 = k) by omega), zup_ne (show ¬ (b + 2 = 181 ∧ k = k) by omega), xg_pos H.2.2.1.2.1, xg_pos (by omega), r2]
        by_cases z2 : t (3 + 2 * k) < v
        · rw [if_pos z2, if_pos z2, xg_pos (by omega), ei]
        · rw [if_neg z2, if_neg z2, xg_pos (by omega), ei]
    · refine Eq.trans ?_ f2
      have of1 := HR.of (n := m) (j := 2 + 2 * k) (by omega)
      have of2 := F1.of (n := m2) (j := 3 + 2 * k) (by omega)
      rw [e_X12_findHours_13, HR.2.2.2.1, if_pos (by omega), xg_pos (P (j := 62) (kk := 33) (by decide)), xg_pos (by omega), Int.toNat_natCast, xg_pos p60, i3, k1, xg_pos (by omega), xg_pos (by omega), show 2 + 2 * (k : Int) = ((2 + 2 * k : Nat) : Int) by omega, of1, xb_some, xg_pos (by omega), Int.toNat_natCast, d1, em, e_X12_findHours_46, F1.2.2.2.1, if_neg (Int.lt_irrefl _), ef]
      show _ = xl_X12_findHours m2 13 _ _
      by_cases z : fit = 0
      · rw [if_pos z, if_pos z, xg_pos (by omega), ei]
      · rw [if_neg z, if_neg z, xg_pos (F1.2.1.p (j := 60) (k := 31) (by decide)), xg_pos (by omega), xg_pos (by omega), xg_pos (by omega), xg_pos (by omega), show 2 + 2 * (k : Int) + 1 = ((3 + 2 * k : Nat) : Int) by omega, of2, xb_some, Int.toNat_natCast, ← ev]
        by_cases z2 : t (3 + 2 * k) < v
        · rw [if_pos z2, if_pos z2, xg_pos (by omega), ei]
        · rw [if_neg z2, if_neg z2, xg_pos (by omega), ei]
end
section
/-! the latest hours; findHours of both -/
theorem h173_l {b i k : Nat} {fit : Int} {t : Nat → Int} {h : yH} (hW : tW2 t) (ho : odR t) (H : oC b t h) (A : odA t h) (hk : k < 9) (bd : ∀ j x : Nat, i < j → (j : Int) < t 0 → odV t j = (x : Int) → -20 ≤ h 182 x ∧ h 182 x ≤ 200) : ∀ (mm j n : Nat) (v : Int), (mm : Int) + j = t 0 → i < j → mm ≤ n →
    ∃ n' v', xl_X3_findHours n 173 [180, (b : Int), t 0, fit, (i : Int), (k : Int), v, (j : Int)] h = xl_X3_findHours n' 173 [180, (b : Int), t 0, fit, (i : Int), (k : Int), v', t 0] h ∧ n = n' + mm ∧ ∀ w : Int, w ≤ v' ↔ (w ≤ v ∧ ∀ j' x : Nat, j ≤ j' → (j' : Int) < t 0 → odV t j' = (x : Int) → sbt (bf t x) k = true → w ≤ h 182 x - 1) := by
  have w0 := hW.1
  intro mm
  induction mm with
  | zero =>
    intro j n v e1 e0 e2
    refine ⟨n, v, by rw [show (j : Int) = t 0 by omega], by omega, fun w => ⟨fun q => ⟨q, fun j' x q1 q2 => by omega⟩, fun q => q.1⟩⟩
  | succ mm ih =>
    intro j n v e1 e0 e2
    obtain ⟨n, rfl⟩ : ∃ n', n = n' + 1 := ⟨n - 1, by omega⟩
    obtain ⟨x, x1, x2, -⟩ := od_c hW (ho j (by omega))
    have a3 := A.1 x (by omega)
    have a4 := A.2 j (by omega)
    have bx := bd j x e0 (by omega) x1
    have o := H.2.2.2
    have ej : (j : Int) + 1 = ((j + 1 : Nat) : Int) := by omega
    rw [e_X3_findHours_173, if_pos (by omega), xg_pos o.2.2.1, xg_pos o.2.2.2.1, xg_pos (by omega), Int.toNat_natCast, a4, x1, xg_pos (by omega), Int.toNat_natCast, a3]
    rcases sb_c (x := bf t x) (c := k) (by omega) with ⟨c, c2⟩ | ⟨c, c2⟩
    · obtain ⟨n', v', f1, f2, f3⟩ := ih (j + 1) n (min v (h 182 x - 1)) (by omega) (by omega) (by omega)
      rw [if_pos c, xg_pos o.2.1, xg_pos o.2.2.2.1, xg_pos (by omega), xg_pos (by omega), xg_pos (by omega), xg_pos (by omega), ej]
      refine ⟨n', v', f1, by omega, fun w => (f3 w).trans ⟨fun ⟨q1, q2⟩ => ⟨by omega, fun j' y p1 p2 p3 p4 => ?_⟩, fun ⟨q1, q2⟩ => ⟨?_, fun j' y p1 p2 => q2 j' y (by omega) p2⟩⟩⟩
      · by_cases z : j' = j
        · rw [z] at p3
          have : y = x := by omega
          rw [this]
          omega
        · exact q2 j' y (by omega) p2 p3 p4
      · have := q2 j x (Nat.le_refl _) (by omega) x1 c2
        omega
    · obtain ⟨n', v', f1, f2, f3⟩ := ih (j + 1) n v (by omega) (by omega) (by omega)
      rw [if_neg (by rw [c]; decide), xg_pos (by omega), ej]
      refine ⟨n', v', f1, by omega, fun w => (f3 w).trans ⟨fun ⟨q1, q2⟩ => ⟨q1, fun j' y p1 p2 p3 p4 => ?_⟩, fun ⟨q1, q2⟩ => ⟨q1, fun j' y p1 p2 => q2 j' y (by omega) p2⟩⟩⟩
      by_cases z : j' = j
      · rw [z] at p3
        have : y = x := by omega
        rw [this, c2] at p4
        cases p4
      · exact q2 j' y (by omega) p2 p3 p4
theorem h182_l {d i k : Nat} {fit : Int} {t : Nat → Int} (hW : tW2 t) (hk : k < 9) (nk : sbt (bf t k) k = false) : ∀ (mm a n : Nat) (g : yH), (mm : Int) + a = t 0 → mm ≤ n → oR d t g → (∀ j : Nat, (j : Int) < t 0 → g 29 j = bf t j) → (∀ a' : Nat, (a' : Int) < t 0 → sbt (bf t a') k = true → -20 ≤ g 32 a' ∧ g 32 a' ≤ 200) →
    ∃ n' g2, xl_X12_findHours n 182 [35, fit, (i : Int), (k : Int), (a : Int)] g = xl_X12_findHours n' 182 [35, fit, (i : Int), (k : Int), t 0] g2 ∧ n = n' + mm ∧ (∀ i j, ¬ (i = 32 ∧ j = k) → g2 i j = g i j) ∧ ∀ w : Int, w ≤ g2 32 k ↔ (w ≤ g 32 k ∧ ∀ a' : Nat, a ≤ a' → (a' : Int) < t 0 → sbt (bf t a') k = true → w ≤ g 32 a' - 1) := by
  have w0 := hW.1
  intro mm
  induction mm with
  | zero =>
    intro a n g e1 e2 H I bd
    refine ⟨n, g, by rw [show (a : Int) = t 0 by omega], by omega, fun _ _ _ => rfl, fun w => ⟨fun q => ⟨q, fun a' q1 q2 => by omega⟩, fun q => q.1⟩⟩
  | succ mm ih =>
    intro a n g e1 e2 H I bd
    obtain ⟨n, rfl⟩ : ∃ n', n = n' + 1 := ⟨n - 1, by omega⟩
    have P : ∀ {j : Nat} {kk : Int}, (j, kk) ∈ rQL → g 35 j = kk := fun hm => H.2.1.p hm
    have p58 := P (j := 58) (kk := 29) (by decide)
    have p61 := P (j := 61) (kk := 32) (by decide)
    have ia := I a (by omega)
    have ea : (a : Int) + 1 = ((a + 1 : Nat) : Int) := by omega
    rw [e_X12_findHours_182, H.2.2.2.1, if_pos (by omega), xg_pos p61, xg_pos p58, xg_pos (by omega), Int.toNat_natCast, Int.toNat_natCast, ia]
    rcases sb_c (x := bf t a) (c := k) (by omega) with ⟨c, c2⟩ | ⟨c, c2⟩
    · have na : a ≠ k := fun w => by
        rw [w, nk] at c2
        cases c2
      have ba := bd a (by omega) c2
      have key : ∀ v : Int, v = min (g 32 k) (g 32 a - 1) → ∃ n' g2, xl_X12_findHours n 182 [35, fit, (i : Int), (k : Int), ((a + 1 : Nat) : Int)] (zup g 32 k v) = xl_X12_findHours n' 182 [35, fit, (i : Int), (k : Int), t 0] g2 ∧ n + 1 = n' + (mm + 1) ∧ (∀ i j, ¬ (i = 32 ∧ j = k) → g2 i j = g i j) ∧ ∀ w : Int, w ≤ g2 32 k ↔ (w ≤ g 32 k ∧ ∀ a' : Nat, a ≤ a' → (a' : Int) < t 0 → sbt (bf t a') k = true → w ≤ g 32 a' - 1) := fun v ev => by
        have nek : ∀ a' : Nat, sbt (bf t a') k = true → zup g 32 k v 32 a' = g 32 a' := fun a' q => zup_ne (fun w => by
          rw [w.2, nk] at q
          cases q)
        obtain ⟨n', g2, f1, f2, f3, f4⟩ := ih (a + 1) n (zup g 32 k v) (by omega) (by omega) (H.fr (fun a j w => zup_ne (by omega))) (fun j hj => by rw [zup_ne (by omega)]; exact I j hj) (fun a' q1 q2 => by rw [nek a' q2]; exact bd a' q1 q2)
        refine ⟨n', g2, f1, by omega, fun i j w => by rw [f3 i j w, zup_ne w], fun w => (f4 w).trans ⟨fun ⟨q1, q2⟩ => ?_, fun ⟨q1, q2⟩ => ?_⟩⟩
        · rw [zup_at] at q1
          refine ⟨by omega, fun a' p1 p2 p3 => ?_⟩
          by_cases z : a' = a
          · rw [z]; omega
          · have := q2 a' (by omega) p2 p3
            rw [nek a' p3] at this
            exact this
        · rw [zup_at]
          have := q2 a (Nat.le_refl _) (by omega) c2
          refine ⟨by omega, fun a' p1 p2 p3 => ?_⟩
          rw [nek a' p3]
          exact q2 a' (by omega) p2 p3
      rw [isIn_t c, xb_some, if_neg (by decide), xg_pos p61, xg_pos (by omega), xg_pos p61, xg_pos (by omega), xg_pos (by omega), e_X12_lesser]
      by_cases z : g 32 k < g 32 a - 1
      · rw [if_pos z, xb_some, xg_pos (by omega), xg_pos (by omega), ea]
        exact key _ (by omega)
      · rw [if_neg z, xb_some, xg_pos (by omega), xg_pos (by omega), ea]
        exact key _ (by omega)
    · obtain ⟨n', g2, f1, f2, f3, f4⟩ := ih (a + 1) n g (by omega) (by omega) H I bd
      rw [isIn_f (by rw [c]; decide), xb_some, if_pos rfl, xg_pos p61, xg_pos (by omega), xg_pos (by omega), xg_pos (by omega), zup_se, ea]
      refine ⟨n', g2, f1, by omega, f3, fun w => (f4 w).trans ⟨fun ⟨q1, q2⟩ => ⟨q1, fun a' p1 p2 p3 => ?_⟩, fun ⟨q1, q2⟩ => ⟨q1, fun a' p1 => q2 a' (by omega)⟩⟩⟩
      by_cases z : a' = a
      · rw [z, c2] at p3
        cases p3
      · exact q2 a' (by omega) p2 p3
/-- the latest hours from i on -/
def laI (t : Nat → Int) (i : Nat) (h g : yH) (fit : Int) : Prop := ∀ j x : Nat, i ≤ j → (j : Int) < t 0 → odV t j = (x : Int) → h 182 x = g 32 x ∧ ((j : Int) - 9 ≤ h 182 x ∧ h 182 x ≤ 99) ∧ (fit = 1 → h 181 x ≤ h 182 x)
theorem lat_l {b d : Nat} {t : Nat → Int} {fit : Int} (hW : tW2 t) (ho : odR t) (hf : fit = 0 ∨ fit = 1) : ∀ (mm n m : Nat) (h g : yH), (mm : Int) ≤ t 0 → 20 * mm + 20 ≤ n → 20 * mm + 20 ≤ m → oC b t h → odA t h → oR d t g → (∀ j : Nat, (j : Int) < t 0 → g 29 j = bf t j ∧ g 33 j = odV t j) → eaI t (t 0).toNat h g fit → laI t mm h g fit →
    ∃ h2 g2, xl_X3_findHours n 144 [180, (b : Int), t 0, fit, (mm : Int) - 1] h = some (fit, h2) ∧ xl_X12_findHours m 151 [35, fit, (mm : Int) - 1] g = some (fit, g2) ∧ (∀ a j, a ≠ 182 → h2 a j = h a j) ∧ (∀ a j, a ≠ 32 → g2 a j = g a j) ∧ laI t 0 h2 g2 fit := by
  have w0 := hW.1
  intro mm
  induction mm with
  | zero =>
    intro n m h g e1 e2 e3 H A HR I E J
    obtain ⟨n, rfl⟩ : ∃ n', n = n' + 1 := ⟨n - 1, by omega⟩
    obtain ⟨m, rfl⟩ : ∃ m', m = m' + 1 := ⟨m - 1, by omega⟩
    refine ⟨h, g, ?_, ?_, fun _ _ _ => rfl, fun _ _ _ => rfl, J⟩
    · rw [e_X3_findHours_144, if_pos (by omega), xg_pos (by omega)]
    · rw [e_X12_findHours_151, if_pos (by omega), xg_pos (by omega)]
  | succ i ih =>
    intro n m h g e1 e2 e3 H A HR I E J
    obtain ⟨n, rfl⟩ : ∃ n', n = n' + 1 := ⟨n - 1, by omega⟩
    obtain ⟨m, rfl⟩ : ∃ m', m = m' + 1 := ⟨m - 1, by omega⟩
    obtain ⟨k, k1, k2, -⟩ := od_c hW (ho i (by omega))
    have o := H.2.2.2
    have P : ∀ {j : Nat} {kk : Int}, (j, kk) ∈ rQL → g 35 j = kk := fun hm => HR.2.1.p hm
    have p61 := P (j := 61) (kk := 32) (by decide)
    have a4 := A.2 i (by omega)
    obtain ⟨-, i3⟩ := I i (by omega)
    obtain ⟨tb1, tb2, -⟩ := hW.2.2.1 k (by omega)
    have r2 := (H.2.1.2.2.1 k k2).2
    have ei : ((i + 1 : Nat) : Int) - 1 = (i : Int) := by omega
    -- what it is ahead of has a later place
    have suc : ∀ j x : Nat, (j : Int) < t 0 → odV t j = (x : Int) → sbt (bf t x) k = true → i < j := fun j x hj hx hb => by
      obtain ⟨j', y1, y2⟩ := od_b hW ho hj hx (by omega) hb
      have := od_i hW ho (i := j') (j := i) (by omega) (by omega) (by omega)
      omega
    have nk : sbt (bf t k) k = false := by
      cases q : sbt (bf t k) k with
      | false => rfl
      | true =>
        have := suc i k (by omega) k1 q
        omega
    -- the class's hour
    obtain ⟨n1, v, c1, c2, c3⟩ := h173_l (i := i) (k := k) (fit := fit) hW ho H A (by omega) (fun j x q0 q1 q2 => by
      have := (J j x (by omega) q1 q2).2.1
      omega) ((t 0).toNat - (i + 1)) (i + 1) n (t (3 + 2 * k)) (by omega) (by omega) (by omega)
    -- the reference's
    have R0 : oR d t (zup g 32 k (t (3 + 2 * k))) := HR.fr (fun a j w => zup_ne (by omega))
    obtain ⟨m1, g1, d1, d2, d3, d4⟩ := h182_l (d := d) (i := i) (fit := fit) hW (show k < 9 by omega) nk (t 0).toNat 0 m (zup g 32 k (t (3 + 2 * k))) (by omega) (by omega) R0 (fun j hj => by rw [zup_ne (by omega)]; exact (I j hj).1) (fun a' q1 q2 => by
      obtain ⟨j, j1, j2⟩ := od_s hW ho q1
      have j3 := suc j a' j1 j2 q2
      have z : a' ≠ k := fun w => by rw [w, nk] at q2; cases q2
      rw [zup_ne (by omega)]
      have := J j a' (by omega) j1 j2
      omega)
    have ev : v = g1 32 k := ge_eq (fun w => (c3 w).trans (Iff.trans ⟨fun ⟨q1, q2⟩ => ⟨by rw [zup_at]; exact q1, fun a' p1 p2 p3 => by
        obtain ⟨j, j1, j2⟩ := od_s hW ho p2
        have j3 := suc j a' j1 j2 p3
        have z : a' ≠ k := fun w => by rw [w, nk] at p3; cases p3
        have := q2 j a' (by omega) j1 j2 p3
        rw [zup_ne (by omega), ← (J j a' (by omega) j1 j2).1]
        exact this⟩, fun ⟨q1, q2⟩ => ⟨by rw [zup_at] at q1; exact q1, fun j x p1 p2 p3 p4 => by
        have xb : (x : Int) < t 0 := by
          obtain ⟨x', x1, x2, -⟩ := od_c hW (ho j p2)
          omega
        have z : x ≠ k := fun w => by rw [w, nk] at p4; cases p4
        have := q2 x (Nat.zero_le _) xb p4
        rw [zup_ne (by omega), ← (J j x (by omega) p2 p3).1] at this
        exact this⟩⟩ (d4 w).symm))
    have vhi : v ≤ t (3 + 2 * k) := ((c3 v).mp (Int.le_refl _)).1
    have vlo : (i : Int) - 9 ≤ v := (c3 _).mpr ⟨by omega, fun j x p1 p2 p3 p4 => by
      have := (J j x (by omega) p2 p3).2.1
      omega⟩
    have vfi : fit = 1 → h 181 k ≤ v := fun w => (c3 _).mpr ⟨(E i k (by omega) k1).2.2.1 w, fun j x p1 p2 p3 p4 => by
      have q1 := (J j x (by omega) p2 p3).2.2 w
      have q2 := (E j x (by omega) p3).2.2.2 k (by omega) p4
      omega⟩
    have J1 : laI t i (zup h 182 k v) g1 fit := fun j x q0 q1 q2 => by
      by_cases z : j = i
      · rw [z] at q2
        have zx : x = k := by omega
        subst zx
        rw [zup_at, zup_ne (by omega)]
        exact ⟨ev, by omega, vfi⟩
      · have zx : x ≠ k := fun w => absurd (od_i hW ho (i := j) (j := i) (by omega) (by omega) (by omega)) z
        rw [zup_ne (by omega), zup_ne (by omega), d3 32 x (by omega), zup_ne (by omega)]
        exact J j x (by omega) q1 q2
    have F1 : oR d t g1 := R0.fr (fun a j w => d3 a j (by omega))
    have E1 : eaI t (t 0).toNat (zup h 182 k v) g1 fit := fun j x q1 q2 => by
      obtain ⟨u1, u2, u3, u4⟩ := E j x q1 q2
      rw [zup_ne (by omega), d3 31 x (by omega), zup_ne (by omega)]
      exact ⟨u1, u2, u3, fun c hc hb => by rw [zup_ne (by omega)]; exact u4 c hc hb⟩
    obtain ⟨h2, g2, f1, f2, f3, f4, f5⟩ := ih (n1 - 1) (m1 - 1) (zup h 182 k v) g1 (by omega) (by omega) (by omega) (H.fr (fun a j w => zup_ne (by omega))) ⟨fun j hj => by rw [zup_ne (by omega)]; exact A.1 j hj, fun j hj => by rw [zup_ne (by omega)]; exact A.2 j hj⟩ F1 (fun j hj => by rw [d3 29 j (by omega), d3 33 j (by omega), zup_ne (by omega), zup_ne (by omega)]; exact I j hj) E1 J1
    obtain ⟨n2, en⟩ : ∃ n2, n1 = n2 + 1 := ⟨n1 - 1, by omega⟩
    obtain ⟨m2, em⟩ : ∃ m2, m1 = m2 + 1 := ⟨m1 - 1, by omega⟩
    have bb := H.1
    have e2' : ((b : Int) + 2).toNat = b + 2 := by omega
    rw [show ((0 : Nat) : Int) = 0 from rfl] at d1
    rw [en] at f1
    rw [em] at f2
    refine ⟨h2, g2, ?_, ?_, fun a j w => by rw [f3 a j w, zup_ne (by omega)], fun a j w => by rw [f4 a j w, d3 a j (by omega), zup_ne (by omega)], f5⟩
    · refine Eq.trans ?_ f1
      rw [e_X3_findHours_144, ei, if_neg (by omega), xg_pos o.2.2.2.1, xg_pos (by omega), Int.toNat_natCast, Int.toNat_natCast, xg_pos H.2.2.1.2.1, a4, k1, xg_pos (by omega), xg_pos (by omega), Int.toNat_natCast, e2', r2, show (i : Int) + 1 = ((i + 1 : Nat) : Int) by omega, c1, en, e_X3_findHours_173, if_neg (Int.lt_irrefl _), xg_pos o.2.1, xg_pos (by omega), Int.toNat_natCast, xg_pos (by omega), show (i : Int) + (-1) = (i : Int) - 1 by omega]
      rfl
    · refine Eq.trans ?_ f2
      have of1 := HR.of (n := m) (j := 3 + 2 * k) (by omega)
      rw [e_X12_findHours_151, ei, if_neg (by omega), xg_pos (P (j := 62) (kk := 33) (by decide)), xg_pos (by omega), Int.toNat_natCast, xg_pos p61, i3, k1, xg_pos (by omega), xg_pos (by omega), xg_pos (by omega), show 2 + 2 * (k : Int) + 1 = ((3 + 2 * k : Nat) : Int) by omega, of1, xb_some, xg_pos (by omega), Int.toNat_natCast, d1, em, e_X12_findHours_182, F1.2.2.2.1, if_neg (Int.lt_irrefl _), xg_pos (by omega), show (i : Int) + (-1) = (i : Int) - 1 by omega]
      rfl
/-- findHours of both -/
theorem fhs_e {n m b d : Nat} {t : Nat → Int} {h g : yH} (hn : 700 ≤ n) (hm : 700 ≤ m) (hW : tW2 t) (hh : wh2 t) (H : oC b t h) (HR : oR d t g) (I : ∀ j : Nat, (j : Int) < t 0 → g 29 j = bf t j) :
    ∃ v h2 g2, f_X3_findHours n [180, (b : Int)] h = some (v, h2) ∧ f_X12_findHours m [35] g = some (v, g2) ∧ (∀ a j, ¬ (181 ≤ a ∧ a ≤ 184) → h2 a j = h a j) ∧ (∀ a j, ¬ (31 ≤ a ∧ a ≤ 33) → g2 a j = g a j) ∧ (v = 0 ∨ v = 1) ∧ (v = 1 → odR t) ∧ (odR t → (∀ j, j < 9 → h2 183 j = bf t j) ∧ ∀ a : Nat, (a : Int) < t 0 → h2 181 a = g2 31 a ∧ h2 182 a = g2 32 a ∧ (v = 1 → h2 181 a ≤ h2 182 a)) := by
  have w0 := hW.1
  obtain ⟨v1, hA, A1, A2, A3⟩ := ffo_e (n := n) (by omega) hW H
  obtain ⟨v2, gA, B1, B2, B3⟩ := lfR_o (n := m) (by omega) hW HR I
  rw [e_X3_findHours, e_X12_findHours, A1, B1, xb_some, xb_some]
  rcases A3 with ⟨rfl, ho, A4⟩ | ⟨rfl, no⟩
  · rcases B3 with ⟨rfl, -, B4⟩ | ⟨-, no⟩
    · have HA : oC b t hA := H.fr (fun a j w => A2 a j (by omega) (by omega))
      have RA : oR d t gA := HR.fr (fun a j w => B2 a j (by omega))
      obtain ⟨n1, m1, fit, hB, gB, C1, C2, C3, C4, C5, C6, C7⟩ := ear_l hW ho (t 0).toNat 0 n m hA gA 1 (by omega) (by omega) (by omega) (Or.inr rfl) HA A4 RA (fun j hj => ⟨(B2 _ _ (by decide)).trans (I j hj), B4 j hj⟩) (fun j x q => by omega)
      obtain ⟨h2, g2, D1, D2, D3, D4, D5⟩ := lat_l hW ho C6 (t 0).toNat n1 m1 hB gB (by omega) (by omega) (by omega) (HA.fr (fun a j w => C4 a j (by omega))) ⟨fun j hj => (C4 _ _ (by decide)).trans (A4.1 j hj), fun j hj => (C4 _ _ (by decide)).trans (A4.2 j hj)⟩ (RA.fr (fun a j w => C5 a j (by omega))) (fun j hj => ⟨(C5 _ _ (by decide)).trans ((B2 _ _ (by decide)).trans (I j hj)), (C5 _ _ (by decide)).trans (B4 j hj)⟩) C7 (fun j x q1 q2 => by omega)
      rw [show (((t 0).toNat : Nat) : Int) - 1 = t 0 - 1 by omega] at D1 D2
      rw [show ((0 : Nat) : Int) = 0 from rfl] at C1 C2
      refine ⟨fit, h2, g2, ?_, ?_, fun a j w => by rw [D3 a j (by omega), C4 a j (by omega), A2 a j (by omega) (by omega)], fun a j w => by rw [D4 a j (by omega), C5 a j (by omega), B2 a j (by omega)], C6, fun _ => ho, fun _ => ⟨fun j hj => by rw [D3 _ _ (by decide), C4 _ _ (by decide)]; exact A4.1 j hj, fun a ha => ?_⟩⟩
      · rw [if_neg (by decide), Int.toNat_natCast, HA.2.1.1, C1, D1]
      · rw [if_neg (by decide), C2, D2]
      · obtain ⟨i, i1, i2⟩ := od_s hW ho ha
        have k1 := C7 i a (by omega) i2
        have k2 := D5 i a (Nat.zero_le _) i1 i2
        exact ⟨(D3 181 a (by decide)).trans (k1.1.trans (D4 31 a (by decide)).symm), k2.1, k2.2.2⟩
    · exact absurd ho no
  · rcases B3 with ⟨-, ho, -⟩ | ⟨rfl, -⟩
    · exact absurd ho no
    · exact ⟨0, hA, gA, if_pos rfl, if_pos rfl, fun a j w => A2 a j (by omega) (by omega), fun a j w => B2 a j (by omega), Or.inl rfl, fun w => by omega, fun w => absurd w no⟩
end
section
/-! hours: both sides -/
/-- behind a question of a dispute -/
def oyK (h g h2 g2 : yH) : Prop := RR True h2 g2 ∧ cPo h2 ∧ (∀ a j, a < 180 ∨ 187 ≤ a → h2 a j = h a j) ∧ k7 g g2
theorem oyK.n {h g : yH} (R : RR True h g) (hL : lnI h) (hm : h 4 1 ≤ 600) (ho : cPo h) : oyK h g h (zup g 35 0 0) := ⟨R.c0 hL hm, ho, fun _ _ _ => rfl, k7.c0⟩
theorem oyK.l {h h2 g g2 : yH} (R : RR True h g) (hL : lnI h) (hm : h 4 1 ≤ 600) (hq : rQ g2) (e : ∀ a j, a ≤ 28 ∨ a = 34 → g2 a j = g a j) (c2 : cPo h2) (e2 : ∀ a j, a < 180 ∨ 187 ≤ a → h2 a j = h a j) : oyK h g h2 g2 :=
  ⟨(R.gf hL hm hq.P (fun a j w => e a j (by omega))).hf hL hm (fun a j w => e2 a j (by omega)), c2, e2, fun a j w1 w2 => e a j (by omega)⟩
theorem WH.dis {s : Nat} {t : Nat → Int} {g : yH} (h : WH g) (hs : s < 2) (hm : (s : Int) < g 4 2) (ht : ∀ j, j < 52 → g 7 (52 * s + j) = t j) : wh2 t := ((h 0 (by decide)).2 s hs hm).c (fun j hj => by
  show t j = g 7 (104 * 0 + 52 * s + j)
  rw [← ht j hj, show 104 * 0 + 52 * s + j = 52 * s + j by omega])
theorem RR.dis {h g : yH} (R : RR True h g) {s : Nat} (hs : s < 2) (hm : (s : Int) < g 4 2) : ∃ t : Nat → Int, cQ (60 + 10 * s) t h ∧ (∀ j, j < 52 → g 7 (52 * s + j) = t j) ∧ tW2 t := by
  obtain ⟨t, a1, a2, a3⟩ := R.2.2.1.2.2.2.2.2.2.2 s hs
  rw [show 0 + 60 + 10 * s = 60 + 10 * s by omega] at a1
  exact ⟨t, a1, fun j hj => by rw [← a2 j hj, show 104 * 0 + 52 * s + j = 52 * s + j by omega], a3 hm⟩
theorem hO.g {d : Nat} {t : Nat → Int} {g g2 g3 : yH} (H : hO d t (zup g 35 0 0) g2) (e : ∀ a j, ¬ (29 ≤ a ∧ a ≤ 33) → g3 a j = g2 a j) : rQ g3 ∧ ∀ a j, a ≤ 28 ∨ a = 34 → g3 a j = g a j :=
  ⟨H.1.2.1.fr (fun j _ => e _ _ (by omega)), fun a j w => by rw [e a j (by omega), H.2.2 a j (by omega) (by omega), zup_ne (by omega)]⟩
theorem RR_hours {m n : Nat} {x y z : Int} {h g : yH} (hn : 700 ≤ n) (hm2 : 700 ≤ m) (R : RR True h g) (wh : WH g) (h16 : h 1 6 = 180) (ho : cPo h) (hL : lnI h) (hm : h 4 1 ≤ 600) (hq : rQ g) (h4 : ∀ j, j < 12 → 0 ≤ g 4 j ∧ g 4 j ≤ 2) : ∃ v h2 g2, f_X11_hours n [1, x, y, z] h = some (v, h2) ∧ f_X12_hours m [35, x, y, z] g = some (v, g2) ∧ oyK h g h2 g2 := by
  have hP := R.1
  have n2 := R.n6 (j := 2) (by decide)
  have b2 := h4 2 (by decide)
  have p3 : h 1 0 = 3 := hP.p (by decide)
  by_cases c : 0 ≤ x ∧ x < g 4 2
  · obtain ⟨s, rfl⟩ : ∃ s : Nat, x = (s : Int) := ⟨x.toNat, by omega⟩
    obtain ⟨t, hS, ht, hW⟩ := R.dis (s := s) (by omega) c.2
    have hh : wh2 t := wh.dis (by omega) c.2 ht
    have w0 := hW.1
    obtain ⟨g1, e1, H⟩ := handD_e (n := m) (d := s) (g := zup g 35 0 0) (by omega) (by omega) (c0_q hq) (c0_4 h4) (by rw [zup_ne (by omega)]; exact c.2) (fun j hj => by rw [zup_ne (by omega)]; exact ht j hj) hW hh
    have cx : (0 ≤ (s : Int) ∧ (s : Int) < h 6 2) := by omega
    have ex : 60 + 10 * (s : Int) = ((60 + 10 * s : Nat) : Int) := by omega
    have h56 : g1 35 56 = t 0 := H.1.2.2.2.1
    have HC : oC (60 + 10 * s) t h := ⟨by omega, hS, hP.q (by omega), ho⟩
    by_cases cy : 0 ≤ y ∧ y < t 0
    · obtain ⟨a, rfl⟩ : ∃ a : Nat, y = (a : Int) := ⟨y.toNat, by omega⟩
      obtain ⟨v, h2, g2, f1, f2, f3, f4, f5, f6, f7⟩ := fhs_e (n := n) (m := m) hn hm2 hW hh HC H.1 H.2.1
      obtain ⟨q2, fr⟩ := H.g (fun a j w => f4 a j (by omega))
      have o2 : cPo h2 := ho.fr (fun j hj => f3 _ _ (by omega))
      have K : oyK h g h2 g2 := oyK.l R hL hm q2 fr o2 (fun a j w => f3 a j (by omega))
      have k16 : h2 1 6 = 180 := (f3 _ _ (by omega)).trans h16
      have eC : ∀ r : Int, r = (if v = 0 then -1 else if z = 0 then h2 181 a else h2 182 a) → f_X11_hours n [1, (s : Int), (a : Int), z] h = some (r, h2) := fun r er => by
        rw [e_X11_hours, xg_pos p3, findDispute_e hP (by omega), xb_some, if_pos cx, if_neg (by omega), if_neg (by omega), xg_pos (by omega), ex, Int.toNat_natCast, hS.1, if_pos cy.2, xg_pos h16, xg_pos (by omega), f1, xb_some, er]
        by_cases v0 : v = 0
        · rw [if_pos v0, if_pos v0]
        · rw [if_neg v0, if_neg v0]
          by_cases z0 : z = 0
          · rw [if_pos z0, if_pos z0, xg_pos k16, xg_pos o2.1, xg_pos (by omega), Int.toNat_natCast]
          · rw [if_neg z0, if_neg z0, xg_pos k16, xg_pos o2.2.1, xg_pos (by omega), Int.toNat_natCast]
      have eR : ∀ r : Int, r = (if v = 0 then -1 else if z = 0 then g2 31 a else g2 32 a) → f_X12_hours m [35, (s : Int), (a : Int), z] g = some (r, g2) := fun r er => by
        rw [e_X12_hours, e1, xb_some, if_neg (by decide), h56, xg_pos (by omega), in_t (by omega), xb_some, if_neg (by decide), f2, xb_some, er]
        by_cases v0 : v = 0
        · rw [if_pos v0, if_pos v0]
        · rw [if_neg v0, if_neg v0]
          by_cases z0 : z = 0
          · rw [if_pos z0, if_pos z0, xg_pos (q2.p (j := 60) (k := 31) (by decide)), xg_pos (by omega), Int.toNat_natCast]
          · rw [if_neg z0, if_neg z0, xg_pos (q2.p (j := 61) (k := 32) (by decide)), xg_pos (by omega), Int.toNat_natCast]
      refine ⟨if v = 0 then -1 else if z = 0 then h2 181 a else h2 182 a, h2, g2, eC _ rfl, eR _ ?_, K⟩
      by_cases v0 : v = 0
      · rw [if_pos v0, if_pos v0]
      · have v1 : v = 1 := by omega
        obtain ⟨-, f8⟩ := f7 (f6 v1)
        obtain ⟨k1, k2, -⟩ := f8 a cy.2
        rw [if_neg v0, if_neg v0, k1, k2]
    · refine ⟨-1, h, g1, ?_, ?_, oyK.l R hL hm (H.g (fun _ _ _ => rfl)).1 (H.g (fun _ _ _ => rfl)).2 ho (fun _ _ _ => rfl)⟩
      · rw [e_X11_hours, xg_pos p3, findDispute_e hP (by omega), xb_some, if_pos cx, if_neg (by omega)]
        by_cases y0 : y < 0
        · rw [if_pos y0]
        · rw [if_neg y0, xg_pos (by omega), ex, Int.toNat_natCast, hS.1, if_neg (by omega)]
      · rw [e_X12_hours, e1, xb_some, if_neg (by decide), h56, xg_pos (by omega), in_f (by omega), xb_some, if_pos rfl]
  · refine ⟨-1, h, zup g 35 0 0, ?_, ?_, oyK.n R hL hm ho⟩
    · rw [e_X11_hours, xg_pos p3, findDispute_e hP (by omega), xb_some, if_neg (show ¬ (0 ≤ x ∧ x < h 6 2) by omega), if_pos (by decide)]
    · rw [e_X12_hours, handD_n (c0_q hq) (c0_4 h4) (by rw [zup_ne (by omega)]; exact c), xb_some, if_pos rfl]
end
section
/-! who may have been first: both sides -/
theorem or0F : ∀ x : Fin 512, yari 8 (x.val : Int) 0 = (x.val : Int) := by decide +kernel
theorem or0' {x : Int} (hx : 0 ≤ x ∧ x ≤ 511) : yari 8 x 0 = x := by
  have := or0F ⟨x.toNat, by omega⟩
  simp only at this
  rw [Int.toNat_of_nonneg hx.1] at this
  exact this
/-- the sayings of m from s that p takes, into x -/
def foA (p : Nat → Bool) : Nat → Nat → Int → Int
  | 0, _, x => x
  | m + 1, s, x => foA p m (s + 1) (if p s = true then yari 8 x (yari 5 1 (s : Int)) else x)
theorem fmn_l {b : Nat} {t : Nat → Int} {h : yH} (hW : tW2 t) (H : oC b t h) : ∀ (mm s n : Nat) (v : Int), (mm : Int) + s = t 0 → mm < n → ∃ n' v', xl_X3_maybeFirst n 19 [180, (b : Int), v, (s : Int)] h = xl_X3_maybeFirst n' 49 [180, (b : Int), v', 0, 0] h ∧ n = n' + mm + 1 ∧ ∀ w : Int, w ≤ v' ↔ (w ≤ v ∧ ∀ a : Nat, s ≤ a → (a : Int) < t 0 → w ≤ h 182 a) := by
  have w0 := hW.1
  intro mm
  induction mm with
  | zero =>
    intro s n v e1 e2
    obtain ⟨n, rfl⟩ : ∃ n', n = n' + 1 := ⟨n - 1, by omega⟩
    refine ⟨n, v, ?_, by omega, fun w => ⟨fun q => ⟨q, fun a q1 q2 => by omega⟩, fun q => q.1⟩⟩
    rw [e_X3_maybeFirst_19, Int.toNat_natCast, H.2.1.1, if_neg (by omega)]
  | succ mm ih =>
    intro s n v e1 e2
    obtain ⟨n, rfl⟩ : ∃ n', n = n' + 1 := ⟨n - 1, by omega⟩
    obtain ⟨n', v', f1, f2, f3⟩ := ih (s + 1) n (min v (h 182 s)) (by omega) (by omega)
    refine ⟨n', v', ?_, by omega, fun w => (f3 w).trans ⟨fun ⟨q1, q2⟩ => ⟨by omega, fun a p1 p2 => ?_⟩, fun ⟨q1, q2⟩ => ⟨?_, fun a p1 p2 => q2 a (by omega) p2⟩⟩⟩
    · rw [e_X3_maybeFirst_19, Int.toNat_natCast, Int.toNat_natCast, H.2.1.1, if_pos (by omega), xg_pos H.2.2.2.2.1, xg_pos (by omega), xg_pos (by omega), show (s : Int) + 1 = ((s + 1 : Nat) : Int) by omega]
      exact f1
    · by_cases z : a = s
      · rw [z]; omega
      · exact q2 a (by omega) p2
    · have := q2 s (Nat.le_refl _) (by omega)
      omega
theorem fmb_l {b : Nat} {v : Int} {t : Nat → Int} {h : yH} {p : Nat → Bool} (hW : tW2 t) (H : oC b t h) (hp : ∀ k : Nat, (k : Int) < t 0 → (p k = true ↔ h 183 k = 0 ∧ h 181 k ≤ v)) : ∀ (mm s n : Nat) (x : Int), (mm : Int) + s = t 0 → mm < n → xl_X3_maybeFirst n 49 [180, (b : Int), v, x, (s : Int)] h = some (foA p mm s x, h) := by
  have w0 := hW.1
  intro mm
  induction mm with
  | zero =>
    intro s n x e1 e2
    obtain ⟨n, rfl⟩ : ∃ n', n = n' + 1 := ⟨n - 1, by omega⟩
    rw [e_X3_maybeFirst_49, Int.toNat_natCast, H.2.1.1, if_neg (by omega)]
    rfl
  | succ mm ih =>
    intro s n x e1 e2
    obtain ⟨n, rfl⟩ : ∃ n', n = n' + 1 := ⟨n - 1, by omega⟩
    have e : foA p (mm + 1) s x = foA p mm (s + 1) (if p s = true then yari 8 x (yari 5 1 (s : Int)) else x) := rfl
    have hs := hp s (by omega)
    have es : (s : Int) + 1 = ((s + 1 : Nat) : Int) := by omega
    rw [e_X3_maybeFirst_49, Int.toNat_natCast, Int.toNat_natCast, H.2.1.1, if_pos (by omega), xg_pos H.2.2.2.2.2.1, xg_pos (by omega), e, es]
    by_cases c : h 183 s = 0
    · rw [if_pos c, xg_pos H.2.2.2.1, xg_pos (by omega)]
      by_cases c2 : v < h 181 s
      · rw [if_pos c2, xg_pos (by omega), ih (s + 1) n x (by omega) (by omega), if_neg (fun w => by have := (hs.mp w).2; omega)]
      · rw [if_neg c2, xg_pos (by omega), ih (s + 1) n _ (by omega) (by omega), if_pos (hs.mpr ⟨c, by omega⟩)]
    · rw [if_neg c, xg_pos (by omega), ih (s + 1) n x (by omega) (by omega), if_neg (fun w => c (hs.mp w).1)]
theorem fri_l {d k : Nat} {x : Int} {t : Nat → Int} {g : yH} (hW : tW2 t) (H : oR d t g) (hk : k < 9) : ∀ (mm a n : Nat) (may : Int), (mm : Int) + a = t 0 → mm < n → (may = 0 ∨ may = 1) → ∃ n' may', xl_X12_firstOnes n 39 [35, x, (k : Int), may, (a : Int)] g = xl_X12_firstOnes n' 39 [35, x, (k : Int), may', t 0] g ∧ n = n' + mm ∧ (may' = 0 ∨ may' = 1) ∧ (may' = 1 ↔ may = 1 ∧ ∀ j : Nat, a ≤ j → (j : Int) < t 0 → j = k ∨ g 31 k ≤ g 32 j) := by
  have w0 := hW.1
  intro mm
  induction mm with
  | zero =>
    intro a n may e1 e2 hm
    refine ⟨n, may, by rw [show (a : Int) = t 0 by omega], by omega, hm, ⟨fun q => ⟨q, fun j q1 q2 => by omega⟩, fun q => q.1⟩⟩
  | succ mm ih =>
    intro a n may e1 e2 hm
    obtain ⟨n, rfl⟩ : ∃ n', n = n' + 1 := ⟨n - 1, by omega⟩
    have P : ∀ {j : Nat} {kk : Int}, (j, kk) ∈ rQL → g 35 j = kk := fun hm => H.2.1.p hm
    have ea : (a : Int) + 1 = ((a + 1 : Nat) : Int) := by omega
    -- the next one, and what it says
    have key : ∀ m1 : Int, (m1 = 0 ∨ m1 = 1) → (m1 = 1 ↔ may = 1 ∧ (a = k ∨ g 31 k ≤ g 32 a)) → ∃ n' may', xl_X12_firstOnes n 39 [35, x, (k : Int), m1, ((a + 1 : Nat) : Int)] g = xl_X12_firstOnes n' 39 [35, x, (k : Int), may', t 0] g ∧ n + 1 = n' + (mm + 1) ∧ (may' = 0 ∨ may' = 1) ∧ (may' = 1 ↔ may = 1 ∧ ∀ j : Nat, a ≤ j → (j : Int) < t 0 → j = k ∨ g 31 k ≤ g 32 j) := fun m1 h1 h2 => by
      obtain ⟨n', may', f1, f2, f3, f4⟩ := ih (a + 1) n m1 (by omega) (by omega) h1
      refine ⟨n', may', f1, by omega, f3, f4.trans ⟨fun ⟨q1, q2⟩ => ?_, fun ⟨q1, q2⟩ => ?_⟩⟩
      · obtain ⟨q3, q4⟩ := h2.mp q1
        refine ⟨q3, fun j p1 p2 => ?_⟩
        by_cases z : j = a
        · rw [z]; exact q4
        · exact q2 j (by omega) p2
      · exact ⟨h2.mpr ⟨q1, q2 a (Nat.le_refl _) (by omega)⟩, fun j p1 p2 => q2 j (by omega) p2⟩
    rw [e_X12_firstOnes_39, H.2.2.2.1, if_pos (by omega), ea]
    by_cases c : may = 0
    · rw [if_pos c, xg_pos (by omega)]
      exact key 0 (Or.inl rfl) ⟨fun w => by omega, fun w => by omega⟩
    · rw [if_neg c]
      by_cases c2 : (a : Int) = (k : Int)
      · rw [if_pos c2, xg_pos (by omega)]
        exact key 1 (Or.inr rfl) ⟨fun _ => ⟨by omega, Or.inl (by omega)⟩, fun _ => rfl⟩
      · rw [if_neg c2, xg_pos (P (j := 60) (kk := 31) (by decide)), xg_pos (by omega), xg_pos (P (j := 61) (kk := 32) (by decide)), xg_pos (by omega), Int.toNat_natCast, Int.toNat_natCast]
        by_cases c3 : g 32 a < g 31 k
        · rw [if_pos c3, xg_pos (by omega)]
          exact key 0 (Or.inl rfl) ⟨fun w => by omega, fun w => by omega⟩
        · rw [if_neg c3, xg_pos (by omega)]
          exact key 1 (Or.inr rfl) ⟨fun _ => ⟨by omega, Or.inr (by omega)⟩, fun _ => rfl⟩
theorem fro_l {d : Nat} {t : Nat → Int} {g : yH} {p : Nat → Bool} (hW : tW2 t) (H : oR d t g) (hp : ∀ k : Nat, (k : Int) < t 0 → (p k = true ↔ g 29 k = 0 ∧ ∀ j : Nat, (j : Int) < t 0 → j = k ∨ g 31 k ≤ g 32 j)) : ∀ (mm k n : Nat) (x : Int), (mm : Int) + k = t 0 → 20 * mm + 20 ≤ n → (0 ≤ x ∧ x ≤ 511) → xl_X12_firstOnes n 13 [35, x, (k : Int)] g = some (foA p mm k x, g) := by
  have w0 := hW.1
  intro mm
  induction mm with
  | zero =>
    intro k n x e1 e2 hx
    obtain ⟨n, rfl⟩ : ∃ n', n = n' + 1 := ⟨n - 1, by omega⟩
    rw [e_X12_firstOnes_13, H.2.2.2.1, if_neg (by omega)]
    rfl
  | succ mm ih =>
    intro k n x e1 e2 hx
    obtain ⟨n, rfl⟩ : ∃ n', n = n' + 1 := ⟨n - 1, by omega⟩
    have e : foA p (mm + 1) k x = foA p mm (k + 1) (if p k = true then yari 8 x (yari 5 1 (k : Int)) else x) := rfl
    have hk := hp k (by omega)
    have ek : (k : Int) + 1 = ((k + 1 : Nat) : Int) := by omega
    have p58 := H.2.1.p (j := 58) (k := 29) (by decide)
    -- behind the inner loop
    have key : ∀ m0 : Int, (m0 = 0 ∨ m0 = 1) → (m0 = 1 ↔ g 29 k = 0) → xl_X12_firstOnes n 39 [35, x, (k : Int), m0, 0] g = some (foA p mm (k + 1) (if p k = true then yari 8 x (yari 5 1 (k : Int)) else x), g) := fun m0 h1 h2 => by
      obtain ⟨n1, m1, f1, f2, f3, f4⟩ := fri_l (k := k) (x := x) hW H (by omega) (t 0).toNat 0 n m0 (by omega) (by omega) h1
      rw [show ((0 : Nat) : Int) = 0 from rfl] at f1
      obtain ⟨n2, rfl⟩ : ∃ n', n1 = n' + 1 := ⟨n1 - 1, by omega⟩
      have pk : m1 = 1 ↔ p k = true := f4.trans (Iff.trans ⟨fun ⟨q1, q2⟩ => ⟨h2.mp q1, fun j hj => q2 j (Nat.zero_le _) hj⟩, fun ⟨q1, q2⟩ => ⟨h2.mpr q1, fun j _ hj => q2 j hj⟩⟩ hk.symm)
      rw [f1, e_X12_firstOnes_39, H.2.2.2.1, if_neg (Int.lt_irrefl _), ek]
      by_cases c : m1 = 0
      · rw [if_pos c, xg_pos (by omega), or0' hx, ih (k + 1) n2 x (by omega) (by omega) hx, if_neg (fun w => by have := pk.mpr w; omega)]
      · rw [if_neg c, xg_pos (by omega), ih (k + 1) n2 _ (by omega) (by omega) (or9 hx (by omega)), if_pos (pk.mp (by omega))]
    rw [e_X12_firstOnes_13, H.2.2.2.1, if_pos (by omega), xg_pos p58, xg_pos (by omega), Int.toNat_natCast, e]
    by_cases c : g 29 k = 0
    · rw [if_pos c]
      exact key 1 (Or.inr rfl) ⟨fun _ => c, fun _ => rfl⟩
    · rw [if_neg c]
      exact key 0 (Or.inl rfl) ⟨fun w => by omega, fun w => absurd w c⟩
theorem fon_e {n m b d : Nat} {t : Nat → Int} {h g : yH} (hn : 700 ≤ n) (hm : 700 ≤ m) (hW : tW2 t) (hh : wh2 t) (H : oC b t h) (HR : oR d t g) (I : ∀ j : Nat, (j : Int) < t 0 → g 29 j = bf t j) :
    ∃ v h2 g2, f_X3_maybeFirst n [180, (b : Int)] h = some (v, h2) ∧ f_X12_firstOnes m [35] g = some (v, g2) ∧ (∀ a j, ¬ (181 ≤ a ∧ a ≤ 184) → h2 a j = h a j) ∧ (∀ a j, ¬ (31 ≤ a ∧ a ≤ 33) → g2 a j = g a j) := by
  have w0 := hW.1
  obtain ⟨v, h2, g2, f1, f2, f3, f4, f5, f6, f7⟩ := fhs_e hn hm hW hh H HR I
  rw [e_X3_maybeFirst, e_X12_firstOnes, f1, f2, xb_some, xb_some]
  by_cases c : v = 0
  · rw [if_pos c, if_pos c]
    exact ⟨-1, h2, g2, rfl, rfl, f3, f4⟩
  · have v1 : v = 1 := by omega
    obtain ⟨k1, k2⟩ := f7 (f6 v1)
    have H2 : oC b t h2 := H.fr (fun a j w => f3 a j (by omega))
    have R2 : oR d t g2 := HR.fr (fun a j w => f4 a j (by omega))
    obtain ⟨n1, v', c1, c2, c3⟩ := fmn_l hW H2 ((t 0).toNat - 1) 1 n (h2 182 0) (by have := hh.1; omega) (by omega)
    have ch : ∀ w : Int, w ≤ v' ↔ ∀ a : Nat, (a : Int) < t 0 → w ≤ h2 182 a := fun w => (c3 w).trans ⟨fun ⟨q1, q2⟩ a ha => by
      by_cases z : a = 0
      · rw [z]; exact q1
      · exact q2 a (by omega) ha, fun q => ⟨q 0 (by have := hh.1; omega), fun a _ ha => q a ha⟩⟩
    have mC := fmb_l (p := fun k => decide (h2 183 k = 0 ∧ h2 181 k ≤ v')) hW H2 (fun k _ => decide_eq_true_iff) (t 0).toNat 0 n1 0 (by omega) (by omega)
    have mR := fro_l (p := fun k => decide (h2 183 k = 0 ∧ h2 181 k ≤ v')) hW R2 (fun k hk => by
      rw [decide_eq_true_iff, ch, k1 k (by omega), f4 29 k (by omega), I k hk, (k2 k hk).1]
      refine ⟨fun ⟨q1, q2⟩ => ⟨q1, fun j hj => Or.inr (by rw [← (k2 j hj).2.1]; exact q2 j hj)⟩, fun ⟨q1, q2⟩ => ⟨q1, fun j hj => ?_⟩⟩
      rcases q2 j hj with q | q
      · rw [q, ← (k2 k hk).1]
        exact (k2 k hk).2.2 v1
      · rw [(k2 j hj).2.1]
        exact q) (t 0).toNat 0 m 0 (by omega) (by omega) (by decide)
    rw [show ((1 : Nat) : Int) = 1 from rfl] at c1
    rw [show ((0 : Nat) : Int) = 0 from rfl] at mC mR
    refine ⟨foA (fun k => decide (h2 183 k = 0 ∧ h2 181 k ≤ v')) (t 0).toNat 0 0, h2, g2, ?_, ?_, f3, f4⟩
    · rw [if_neg c, xg_pos H2.2.2.2.2.1, c1]
      exact mC
    · rw [if_neg c]
      exact mR
end
section
/-! how many orders: both sides -/
def pcN (s : Nat) : Nat := s % 2 + s / 2 % 2 + s / 4 % 2 + s / 8 % 2 + s / 16 % 2 + s / 32 % 2 + s / 64 % 2 + s / 128 % 2 + s / 256 % 2
theorem s9F : ∀ s : Fin 512, ∀ k : Fin 9, (sbt (s.val : Int) k.val = true → (s.val / 2 ^ k.val % 2 = 1 ∧ 2 ^ k.val ≤ s.val ∧ yari 7 (s.val : Int) (yari 9 (yari 5 1 (k.val : Int)) (-1)) = ((s.val - 2 ^ k.val : Nat) : Int) ∧ sbt ((s.val - 2 ^ k.val : Nat) : Int) k.val = false ∧ pcN (s.val - 2 ^ k.val) + 1 = pcN s.val)) ∧ (sbt (s.val : Int) k.val = false → (s.val / 2 ^ k.val % 2 = 0 ∧ yari 8 (s.val : Int) (yari 5 1 (k.val : Int)) = ((s.val + 2 ^ k.val : Nat) : Int) ∧ s.val + 2 ^ k.val < 512 ∧ sbt ((s.val + 2 ^ k.val : Nat) : Int) k.val = true)) := by decide +kernel
theorem s9t {s k : Nat} (hs : s < 512) (hk : k < 9) (h : sbt (s : Int) k = true) : s / 2 ^ k % 2 = 1 ∧ 2 ^ k ≤ s ∧ yari 7 (s : Int) (yari 9 (yari 5 1 (k : Int)) (-1)) = ((s - 2 ^ k : Nat) : Int) ∧ sbt ((s - 2 ^ k : Nat) : Int) k = false ∧ pcN (s - 2 ^ k) + 1 = pcN s := (s9F ⟨s, hs⟩ ⟨k, hk⟩).1 h
theorem s9f {s k : Nat} (hs : s < 512) (hk : k < 9) (h : sbt (s : Int) k = false) : s / 2 ^ k % 2 = 0 ∧ yari 8 (s : Int) (yari 5 1 (k : Int)) = ((s + 2 ^ k : Nat) : Int) ∧ s + 2 ^ k < 512 ∧ sbt ((s + 2 ^ k : Nat) : Int) k = true := (s9F ⟨s, hs⟩ ⟨k, hk⟩).2 h
theorem n9F : ∀ N : Fin 10, ∀ s : Fin 512, ∀ k : Fin 9, s.val < 2 ^ N.val → k.val < N.val → s.val / 2 ^ k.val % 2 = 0 → s.val + 2 ^ k.val < 2 ^ N.val := by decide +kernel
theorem p29F : ∀ N : Fin 10, yari 5 1 (N.val : Int) = ((2 ^ N.val : Nat) : Int) ∧ 2 ^ N.val ≤ 512 ∧ 1 ≤ 2 ^ N.val := by decide +kernel
theorem pwF : ∀ s : Fin 512, (s.val ≠ 0 → 1 ≤ pcN s.val) ∧ (9 : Int) ^ pcN s.val ≤ 387420489 ∧ (9 : Int) ^ (pcN s.val - 1) ≤ 43046721 := by decide +kernel
theorem p2_e {N : Nat} (h : N ≤ 9) : yari 5 1 (N : Int) = ((2 ^ N : Nat) : Int) ∧ 2 ^ N ≤ 512 ∧ 1 ≤ 2 ^ N := p29F ⟨N, by omega⟩
/-- a sum of the first m -/
def smA (f : Nat → Int) : Nat → Int
  | 0 => 0
  | m + 1 => smA f m + f m
theorem smA_c {f g : Nat → Int} : ∀ m, (∀ k, k < m → f k = g k) → smA f m = smA g m := by
  intro m
  induction m with
  | zero => intro _; rfl
  | succ m ih =>
    intro h
    show smA f m + f m = smA g m + g m
    rw [ih (fun k hk => h k (by omega)), h m (by omega)]
theorem smA_le {f g : Nat → Int} : ∀ m, (∀ k, k < m → f k ≤ g k) → smA f m ≤ smA g m := by
  intro m
  induction m with
  | zero => intro _; exact Int.le_refl _
  | succ m ih =>
    intro h
    show smA f m + f m ≤ smA g m + g m
    have := ih (fun k hk => h k (by omega))
    have := h m (by omega)
    omega
theorem smA_0 {f : Nat → Int} : ∀ m, (∀ k, k < m → f k = 0) → smA f m = 0 := by
  intro m
  induction m with
  | zero => intro _; rfl
  | succ m ih =>
    intro h
    show smA f m + f m = 0
    have := ih (fun k hk => h k (by omega))
    have := h m (by omega)
    omega
theorem smA_1 {f g : Nat → Int} {x : Nat} {d : Int} : ∀ m, x < m → f x = g x + d → (∀ k, k < m → k ≠ x → f k = g k) → smA f m = smA g m + d := by
  intro m
  induction m with
  | zero => intro h; omega
  | succ m ih =>
    intro hx e h
    show smA f m + f m = smA g m + g m + d
    by_cases z : x = m
    · have := smA_c (f := f) (g := g) m (fun k hk => h k (by omega) (by omega))
      rw [← z] at this ⊢
      omega
    · have := ih (by omega) e (fun k hk => h k (by omega))
      have := h m (by omega) (by omega)
      omega
theorem smA_b {f : Nat → Int} {B : Int} : ∀ m, (∀ k, k < m → 0 ≤ f k ∧ f k ≤ B) → 0 ≤ smA f m ∧ smA f m ≤ (m : Int) * B := by
  intro m
  induction m with
  | zero => intro _; exact ⟨Int.le_refl _, by rw [show ((0 : Nat) : Int) = 0 from rfl, Int.zero_mul]; exact Int.le_refl _⟩
  | succ m ih =>
    intro h
    have i := ih (fun k hk => h k (by omega))
    have b := h m (by omega)
    have e : ((m + 1 : Nat) : Int) * B = (m : Int) * B + B := by
      rw [show ((m + 1 : Nat) : Int) = (m : Int) + 1 by omega, Int.add_mul, Int.one_mul]
    show 0 ≤ smA f m + f m ∧ smA f m + f m ≤ ((m + 1 : Nat) : Int) * B
    rw [e]
    omega
def cnA (t : Nat → Int) (N : Nat) : Nat → Nat → Int
  | 0, _ => 1
  | f + 1, s => if s = 0 then 1 else smA (fun k => if sbt (s : Int) k = true ∧ yari 7 (bf t k) (yari 9 ((s - 2 ^ k : Nat) : Int) (-1)) = 0 then cnA t N f (s - 2 ^ k) else 0) N
theorem cnA_s {t : Nat → Int} {N f s : Nat} : cnA t N (f + 1) s = if s = 0 then 1 else smA (fun k => if sbt (s : Int) k = true ∧ yari 7 (bf t k) (yari 9 ((s - 2 ^ k : Nat) : Int) (-1)) = 0 then cnA t N f (s - 2 ^ k) else 0) N := rfl
theorem cnA_t {t : Nat → Int} {N : Nat} : ∀ f s, s ≤ f → cnA t N f s = cnA t N (f + 1) s := by
  intro f
  induction f with
  | zero =>
    intro s hs
    rw [show s = 0 by omega]
    rfl
  | succ f ih =>
    intro s hs
    rw [cnA_s, cnA_s]
    by_cases z : s = 0
    · rw [if_pos z, if_pos z]
    · rw [if_neg z, if_neg z]
      refine smA_c N (fun k _ => ?_)
      have p : 1 ≤ 2 ^ k := Nat.one_le_two_pow
      have i := ih (s - 2 ^ k) (by omega)
      by_cases c : sbt (s : Int) k = true ∧ yari 7 (bf t k) (yari 9 ((s - 2 ^ k : Nat) : Int) (-1)) = 0
      · rw [if_pos c, if_pos c, i]
      · rw [if_neg c, if_neg c]
/-- how many orders of a set -/
def cnR (t : Nat → Int) (N s : Nat) : Int := cnA t N 600 s
def trm (t : Nat → Int) (N s k : Nat) : Int := if sbt (s : Int) k = true ∧ yari 7 (bf t k) (yari 9 ((s - 2 ^ k : Nat) : Int) (-1)) = 0 then cnR t N (s - 2 ^ k) else 0
theorem cnR_0 {t : Nat → Int} {N : Nat} : cnR t N 0 = 1 := by
  unfold cnR
  rw [show (600 : Nat) = 599 + 1 from rfl, cnA_s, if_pos rfl]
theorem cnR_e {t : Nat → Int} {N s : Nat} (h0 : s ≠ 0) (hs : s < 512) : cnR t N s = smA (trm t N s) N := by
  exact (cnA_t (t := t) (N := N) 600 s (by omega)).trans ((cnA_s (f := 600)).trans (if_neg h0))
theorem cnR_b {t : Nat → Int} {N : Nat} (hN : N ≤ 9) : ∀ m s, s ≤ m → s < 512 → 0 ≤ cnR t N s ∧ cnR t N s ≤ (9 : Int) ^ pcN s := by
  intro m
  induction m with
  | zero =>
    intro s hs _
    rw [show s = 0 by omega, cnR_0]
    decide
  | succ m ih =>
    intro s hs h5
    by_cases z : s = 0
    · rw [z, cnR_0]
      decide
    · have p1 := (pwF ⟨s, h5⟩).1 z
      simp only at p1
      have e9 : (9 : Int) ^ pcN s = 9 * (9 : Int) ^ (pcN s - 1) := by
        obtain ⟨q, hq⟩ : ∃ q, pcN s = q + 1 := ⟨pcN s - 1, by omega⟩
        rw [hq, Int.pow_succ, Int.mul_comm, show q + 1 - 1 = q by omega]
      have pz : (0 : Int) < (9 : Int) ^ (pcN s - 1) := by first | exact Int.pow_pos (by decide) | exact Int.pos_pow_of_pos _ _ (by decide)
      have b := smA_b (f := trm t N s) (B := (9 : Int) ^ (pcN s - 1)) N (fun k hk => by
        unfold trm
        by_cases c : sbt (s : Int) k = true ∧ yari 7 (bf t k) (yari 9 ((s - 2 ^ k : Nat) : Int) (-1)) = 0
        · obtain ⟨-, q2, -, -, q5⟩ := s9t h5 (by omega) c.1
          have p : 1 ≤ 2 ^ k := Nat.one_le_two_pow
          have i := ih (s - 2 ^ k) (by omega) (by omega)
          rw [show pcN (s - 2 ^ k) = pcN s - 1 by omega] at i
          rw [if_pos c]
          exact i
        · rw [if_neg c]
          omega)
      rw [cnR_e z h5, e9]
      have : (N : Int) * (9 : Int) ^ (pcN s - 1) ≤ 9 * (9 : Int) ^ (pcN s - 1) := Int.mul_le_mul_of_nonneg_right (by omega) (by omega)
      omega
theorem cnR_m {t : Nat → Int} {N s : Nat} (hN : N ≤ 9) (hs : s < 512) : 0 ≤ cnR t N s ∧ cnR t N s ≤ 387420489 := by
  have b := cnR_b (t := t) hN s s (Nat.le_refl _) hs
  have := (pwF ⟨s, hs⟩).2.1
  simp only at this
  omega
theorem trm_b {t : Nat → Int} {N s k : Nat} (hN : N ≤ 9) (hs : s < 512) : 0 ≤ trm t N s k ∧ trm t N s k ≤ 387420489 := by
  unfold trm
  by_cases c : sbt (s : Int) k = true ∧ yari 7 (bf t k) (yari 9 ((s - 2 ^ k : Nat) : Int) (-1)) = 0
  · rw [if_pos c]; exact cnR_m hN (Nat.lt_of_le_of_lt (Nat.sub_le _ _) hs)
  · rw [if_neg c]; omega
/-- what is summed of the first sayings -/
theorem trm_p {t : Nat → Int} {N s : Nat} (hN : N ≤ 9) (hs : s < 512) : ∀ m, m ≤ N → 0 ≤ smA (trm t N s) m ∧ smA (trm t N s) m ≤ 387420489 := by
  intro m hm
  by_cases z : s = 0
  · rw [smA_0 m (fun k hk => by
      unfold trm
      have : sbt (s : Int) k = false := by
        rw [z]
        exact sb_0 ⟨k, by omega⟩
      rw [this, if_neg (fun w => (by cases w.1))])]
    omega
  · have e := cnR_e (t := t) (N := N) z hs
    have b := cnR_m (t := t) hN hs
    have key : ∀ d, smA (trm t N s) m ≤ smA (trm t N s) (m + d) := by
      intro d
      induction d with
      | zero => exact Int.le_refl _
      | succ d ih =>
        have := (trm_b (t := t) (N := N) (s := s) (k := m + d) hN hs).1
        show smA (trm t N s) m ≤ smA (trm t N s) (m + d) + trm t N s (m + d)
        omega
    have k1 := key (N - m)
    rw [show m + (N - m) = N by omega] at k1
    refine ⟨?_, by omega⟩
    have := smA_b (f := trm t N s) (B := 387420489) m (fun k _ => trm_b hN hs)
    omega
/-! the reference -/
theorem fo23_l {d s : Nat} {t : Nat → Int} {g : yH} {N : Nat} (hN : N ≤ 9) (e0 : t 0 = (N : Int)) (H : oR d t g) (I : ∀ j : Nat, (j : Int) < t 0 → g 29 j = bf t j) (hs : s < 512) (T : ∀ u, u < s → g 30 u = cnR t N u) : ∀ (mm k n : Nat), mm + k = N → mm ≤ n → ∃ n', xl_X12_findOrders n 23 [35, (s : Int), smA (trm t N s) k, (k : Int)] g = xl_X12_findOrders n' 23 [35, (s : Int), smA (trm t N s) N, (N : Int)] g ∧ n = n' + mm := by
  intro mm
  induction mm with
  | zero =>
    intro k n e1 e2
    exact ⟨n, by rw [show k = N by omega], by omega⟩
  | succ mm ih =>
    intro k n e1 e2
    obtain ⟨n, rfl⟩ : ∃ n', n = n' + 1 := ⟨n - 1, by omega⟩
    obtain ⟨n', f1, f2⟩ := ih (k + 1) n (by omega) (by omega)
    refine ⟨n', ?_, by omega⟩
    have b1 := trm_p (t := t) hN hs k (by omega)
    have b2 := trm_p (t := t) hN hs (k + 1) (by omega)
    have st : smA (trm t N s) (k + 1) = smA (trm t N s) k + trm t N s k := rfl
    have ek : (k : Int) + 1 = ((k + 1 : Nat) : Int) := by omega
    have ik := I k (by omega)
    rw [st] at f1 b2
    rw [e_X12_findOrders_23, H.2.2.2.1, if_pos (by omega)]
    rcases sb_c (x := (s : Int)) (c := k) (by omega) with ⟨c, c2⟩ | ⟨c, c2⟩
    · obtain ⟨-, q2, q3, -, -⟩ := s9t hs (by omega) c2
      have p : 1 ≤ 2 ^ k := Nat.one_le_two_pow
      rw [isIn_t c, xb_some, if_neg (by decide), xg_pos (H.2.1.p (j := 58) (k := 29) (by decide)), xg_pos (by omega), Int.toNat_natCast, ik, q3]
      by_cases z : yari 7 (bf t k) (yari 9 ((s - 2 ^ k : Nat) : Int) (-1)) = 0
      · have et : trm t N s k = cnR t N (s - 2 ^ k) := if_pos ⟨c2, z⟩
        rw [et] at f1 b2
        rw [if_pos z, xg_pos (H.2.1.p (j := 59) (k := 30) (by decide)), xg_pos (by omega), Int.toNat_natCast, T (s - 2 ^ k) (by omega), xg_pos (by omega), xg_pos (by omega), ek]
        exact f1
      · have et : trm t N s k = 0 := if_neg (fun w => z w.2)
        rw [et] at f1
        rw [if_neg z, xg_pos (by omega), xg_pos (by omega), ek]
        exact f1
    · have et : trm t N s k = 0 := if_neg (fun w => by rw [c2] at w; cases w.1)
      rw [et] at f1
      rw [isIn_f (by rw [c]; decide), xb_some, if_pos rfl, xg_pos (by omega), xg_pos (by omega), ek]
      exact f1
theorem fo9_l {d : Nat} {t : Nat → Int} {N : Nat} (hN : N ≤ 9) (h1 : 1 ≤ N) (e0 : t 0 = (N : Int)) : ∀ (mm s n : Nat) (g : yH), mm + s = 2 ^ N → 1 ≤ s → 12 * mm + 5 ≤ n → oR d t g → (∀ j : Nat, (j : Int) < t 0 → g 29 j = bf t j) → (∀ u, u < s → g 30 u = cnR t N u) →
    ∃ g2, xl_X12_findOrders n 9 [35, (s : Int)] g = some (cnR t N (2 ^ N - 1), g2) ∧ ∀ i j, i ≠ 30 → g2 i j = g i j := by
  obtain ⟨p1, p2, p3⟩ := p2_e hN
  intro mm
  induction mm with
  | zero =>
    intro s n g e1 hs e2 H I T
    obtain ⟨n, rfl⟩ : ∃ n', n = n' + 1 := ⟨n - 1, by omega⟩
    refine ⟨g, ?_, fun _ _ _ => rfl⟩
    have p4 : 2 ≤ 2 ^ N := by
      have : 2 ^ 1 ≤ 2 ^ N := Nat.pow_le_pow_right (by decide) h1
      omega
    rw [e_X12_findOrders_9, H.2.2.2.1, e0, p1, if_neg (by omega), xg_pos (H.2.1.p (j := 59) (k := 30) (by decide)), xg_pos (by omega), xg_pos (by omega), show (((2 ^ N : Nat) : Int) - 1).toNat = 2 ^ N - 1 by omega, T _ (by omega)]
  | succ mm ih =>
    intro s n g e1 hs e2 H I T
    obtain ⟨n, rfl⟩ : ∃ n', n = n' + 1 := ⟨n - 1, by omega⟩
    obtain ⟨n1, f1, f2⟩ := fo23_l (s := s) hN e0 H I (by omega) T N 0 n (by omega) (by omega)
    obtain ⟨n2, en⟩ : ∃ n2, n1 = n2 + 1 := ⟨n1 - 1, by omega⟩
    obtain ⟨g2, k1, k2⟩ := ih (s + 1) n2 (zup g 30 s (smA (trm t N s) N)) (by omega) (by omega) (by omega) (H.fr (fun a j w => zup_ne (by omega))) (fun j hj => by rw [zup_ne (by omega)]; exact I j hj) (fun u hu => by
      by_cases z : u = s
      · rw [z, zup_at, cnR_e (by omega) (by omega)]
      · rw [zup_ne (by omega)]; exact T u (by omega))
    refine ⟨g2, ?_, fun i j w => by rw [k2 i j w, zup_ne (by omega)]⟩
    have z0 : smA (trm t N s) 0 = 0 := rfl
    rw [z0, show ((0 : Nat) : Int) = 0 from rfl] at f1
    rw [e_X12_findOrders_9, H.2.2.2.1, e0, p1, if_pos (by omega), f1, en, e_X12_findOrders_23, H.2.2.2.1, e0, if_neg (Int.lt_irrefl _), xg_pos (H.2.1.p (j := 59) (k := 30) (by decide)), xg_pos (by omega), xg_pos (by omega), Int.toNat_natCast, show (s : Int) + 1 = ((s + 1 : Nat) : Int) by omega]
    exact k1
end
