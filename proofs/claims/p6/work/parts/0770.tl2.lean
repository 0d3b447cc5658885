/-! tells: the reference -/
theorem sH.fq {s : Nat} {t : Nat → Int} {g g2 : yH} (H : sH s t g) (e : ∀ a j, a ≠ 12 → g2 a j = g a j) : sH s t g2 := H.fr (fun a j w => e a j (by omega))
theorem hv.fq {s : Nat} {t u : Nat → Int} {g g2 : yH} (H : hv s t u g) (e : ∀ a j, a ≠ 12 → g2 a j = g a j) : hv s t u g2 := by
  obtain ⟨h1, h2, h3, h4, h5, h6, h7, h8⟩ := H
  exact ⟨h1.fq e, h2, by rw [e _ _ (by omega)]; exact h3, by rw [e _ _ (by omega)]; exact h4, by rw [e _ _ (by omega)]; exact h5, by rw [e _ _ (by omega)]; exact h6, by rw [e _ _ (by omega)]; exact h7, fun i hi => by rw [e _ _ (by omega), e _ _ (by omega)]; exact h8 i hi⟩
/-- one who speaks: who hears it for the first time -/
theorem pas_74 {s : Nat} {x1 set : Int} {t u : Nat → Int} {r b : Nat} (hW : tW0 u) (hset : 0 ≤ set ∧ set ≤ 63) (hr : r < 7) (hb : b < 7) : ∀ (m k n : Nat) (g : yH), 7 - k = m → (k : Int) ≤ u 6 → m + 12 ≤ n → hv s t u g →
    ∃ g2 n2, n ≤ n2 + m ∧ xl_X12_passOn n 74 [35, x1, (r : Int), (b : Int), set, (k : Int)] g = xl_X12_passOn n2 42 [35, x1, (r : Int), ((b + 1 : Nat) : Int)] g2 ∧ (∀ a j, a ≠ 12 → g2 a j = g a j) ∧ ∀ c : Nat, ((c : Int) < u 6 ∧ k ≤ c ∧ bt set c = true ∧ g 12 c = -1 → g2 12 c = (r : Int) + 1) ∧ (¬ ((c : Int) < u 6 ∧ k ≤ c ∧ bt set c = true ∧ g 12 c = -1) → g2 12 c = g 12 c) := by
  have w6 := hW.wd.2.2.2.2
  intro m
  induction m with
  | zero => intro k n g e1 e2; omega
  | succ m ih =>
    intro k n g e1 e2 e3 H
    obtain ⟨n, rfl⟩ : ∃ n', n = n' + 1 := ⟨n - 1, by omega⟩
    have p32 : g 35 32 = 12 := H.1.2.2.2.p (j := 32) (k := 12) (by decide)
    by_cases c : (k : Int) < u 6
    · have q := (bit_b hset).2 k (by omega)
      -- what stays as it was
      have same : ∀ (g1 : yH), g1 = zup g 12 k (g 12 k) → ¬ (bt set k = true ∧ g 12 k = -1) → xl_X12_passOn (n + 1) 74 [35, x1, (r : Int), (b : Int), set, (k : Int)] g = xl_X12_passOn n 74 [35, x1, (r : Int), (b : Int), set, ((k + 1 : Nat) : Int)] g1 → ∃ g2 n2, n + 1 ≤ n2 + (m + 1) ∧ xl_X12_passOn (n + 1) 74 [35, x1, (r : Int), (b : Int), set, (k : Int)] g = xl_X12_passOn n2 42 [35, x1, (r : Int), ((b + 1 : Nat) : Int)] g2 ∧ (∀ a j, a ≠ 12 → g2 a j = g a j) ∧ ∀ c : Nat, ((c : Int) < u 6 ∧ k ≤ c ∧ bt set c = true ∧ g 12 c = -1 → g2 12 c = (r : Int) + 1) ∧ (¬ ((c : Int) < u 6 ∧ k ≤ c ∧ bt set c = true ∧ g 12 c = -1) → g2 12 c = g 12 c) := by
        intro g1 eg hno key
        have eg2 : ∀ a j, g1 a j = g a j := fun a j => by
          rw [eg]
          by_cases w : a = 12 ∧ j = k
          · rw [w.1, w.2, zup_at]
          · rw [zup_ne w]
        obtain ⟨g2, n2, f1, f2, f3, f4⟩ := ih (k + 1) n g1 (by omega) (by omega) (by omega) (H.fq (fun a j _ => eg2 a j))
        refine ⟨g2, n2, by omega, key.trans f2, fun a j w => (f3 a j w).trans (eg2 a j), fun c' => ?_⟩
        obtain ⟨k1, k2⟩ := f4 c'
        rw [eg2] at k1 k2
        refine ⟨fun ⟨v1, v2, v3, v4⟩ => k1 ⟨v1, ?_, v3, v4⟩, fun w => k2 (fun ⟨v1, v2, v3, v4⟩ => w ⟨v1, by omega, v3, v4⟩)⟩
        have : c' ≠ k := fun e => by rw [e] at v3 v4; exact hno ⟨v3, v4⟩
        omega
      by_cases c2 : bt set k = true
      · have q2 := q.mpr c2
        by_cases c3 : g 12 k = -1
        · have key : xl_X12_passOn (n + 1) 74 [35, x1, (r : Int), (b : Int), set, (k : Int)] g = xl_X12_passOn n 74 [35, x1, (r : Int), (b : Int), set, ((k + 1 : Nat) : Int)] (zup g 12 k ((r : Int) + 1)) := by
            rw [e_X12_passOn_74, H.2.2.2.2.2.2.1, if_pos c, xg_pos p32, e_X12_isIn, if_pos q2, xb_some, if_neg (by decide), xg_pos p32, xg_pos (by omega), Int.toNat_natCast, if_pos c3, xg_pos (by omega), xg_pos (by omega), xg_pos (by omega), show (k : Int) + 1 = ((k + 1 : Nat) : Int) by omega]
          obtain ⟨g2, n2, f1, f2, f3, f4⟩ := ih (k + 1) n (zup g 12 k ((r : Int) + 1)) (by omega) (by omega) (by omega) (H.fq (fun a j w => zup_ne (by omega)))
          refine ⟨g2, n2, by omega, key.trans f2, fun a j w => (f3 a j w).trans (zup_ne (by omega)), fun c' => ?_⟩
          obtain ⟨k1, k2⟩ := f4 c'
          by_cases w : c' = k
          · subst w
            rw [zup_at] at k1 k2
            exact ⟨fun _ => k2 (fun v => by omega), fun v => absurd ⟨c, Nat.le_refl _, c2, c3⟩ v⟩
          · rw [zup_ne (by omega)] at k1 k2
            exact ⟨fun ⟨v1, v2, v3, v4⟩ => k1 ⟨v1, by omega, v3, v4⟩, fun v => k2 (fun ⟨v1, v2, v3, v4⟩ => v ⟨v1, by omega, v3, v4⟩)⟩
        · refine same _ rfl (fun w => c3 w.2) ?_
          rw [e_X12_passOn_74, H.2.2.2.2.2.2.1, if_pos c, xg_pos p32, e_X12_isIn, if_pos q2, xb_some, if_neg (by decide), xg_pos p32, xg_pos (by omega), Int.toNat_natCast, if_neg c3, xg_pos p32, xg_pos (by omega), xg_pos (by omega), xg_pos (by omega), show (k : Int) + 1 = ((k + 1 : Nat) : Int) by omega]
      · refine same _ rfl (fun w => c2 w.1) ?_
        rw [e_X12_passOn_74, H.2.2.2.2.2.2.1, if_pos c, xg_pos p32, e_X12_isIn, if_neg (fun w => c2 (q.mp w)), xb_some, if_pos rfl, xg_pos p32, xg_pos (by omega), xg_pos (by omega), Int.toNat_natCast, xg_pos (by omega), show (k : Int) + 1 = ((k + 1 : Nat) : Int) by omega]
    · refine ⟨g, n, by omega, ?_, fun _ _ _ => rfl, fun c' => ⟨fun ⟨v1, v2, _⟩ => by omega, fun _ => rfl⟩⟩
      rw [e_X12_passOn_74, H.2.2.2.2.2.2.1, if_neg c, xg_pos (by omega), show (b : Int) + 1 = ((b + 1 : Nat) : Int) by omega]
/-- a round: all who heard it last speak -/
theorem pas_42 {s : Nat} {x1 : Int} {t u : Nat → Int} {r : Nat} (hW : tW0 u) (hr : r < 7) : ∀ (m b n : Nat) (g : yH), 7 - b = m → (b : Int) ≤ u 6 → 9 * m + 20 ≤ n → hv s t u g →
    ∃ g2 n2, n ≤ n2 + 9 * m ∧ xl_X12_passOn n 42 [35, x1, (r : Int), (b : Int)] g = xl_X12_passOn n2 32 [35, x1, ((r + 1 : Nat) : Int)] g2 ∧ (∀ a j, a ≠ 12 → g2 a j = g a j) ∧ ∀ c : Nat, (g 12 c ≠ -1 → g2 12 c = g 12 c) ∧ ((c : Int) < u 6 → g 12 c = -1 → (∃ b' : Nat, b ≤ b' ∧ (b' : Int) < u 6 ∧ g 12 b' = (r : Int) ∧ bt (hrs u b') c = true) → g2 12 c = (r : Int) + 1) ∧ (g 12 c = -1 → (∀ b' : Nat, b ≤ b' → (b' : Int) < u 6 → g 12 b' = (r : Int) → bt (hrs u b') c = false) → g2 12 c = -1) := by
  have w6 := hW.wd.2.2.2.2
  intro m
  induction m with
  | zero => intro b n g e1 e2; omega
  | succ m ih =>
    intro b n g e1 e2 e3 H
    obtain ⟨n, rfl⟩ : ∃ n', n = n' + 1 := ⟨n - 1, by omega⟩
    have p32 : g 35 32 = 12 := H.1.2.2.2.p (j := 32) (k := 12) (by decide)
    by_cases c : (b : Int) < u 6
    · by_cases c2 : g 12 b = (r : Int)
      · have key : xl_X12_passOn (n + 1) 42 [35, x1, (r : Int), (b : Int)] g = xl_X12_passOn n 74 [35, x1, (r : Int), (b : Int), hrs u b, ((0 : Nat) : Int)] g := by
          rw [e_X12_passOn_42, H.2.2.2.2.2.2.1, if_pos c, xg_pos p32, xg_pos (by omega), Int.toNat_natCast, if_pos c2, hearersOf_e (by omega) H hW c, xb_some]
          rfl
        obtain ⟨g1, n1, f1, f2, f3, f4⟩ := pas_74 (x1 := x1) (r := r) (b := b) hW (hrs_b (a := b) hW) hr (by omega) 7 0 n g rfl w6.1 (by omega) H
        obtain ⟨g2, n2, k1, k2, k3, k4⟩ := ih (b + 1) n1 g1 (by omega) (by omega) (by omega) (H.fq f3)
        refine ⟨g2, n2, by omega, key.trans (f2.trans k2), fun a j w => (k3 a j w).trans (f3 a j w), fun c' => ?_⟩
        have keep : ∀ b' : Nat, g1 12 b' = (r : Int) ↔ g 12 b' = (r : Int) := fun b' => by
          obtain ⟨z1, z2⟩ := f4 b'
          by_cases w : (b' : Int) < u 6 ∧ 0 ≤ b' ∧ bt (hrs u b) b' = true ∧ g 12 b' = -1
          · have := z1 w
            have := w.2.2.2
            constructor <;> intro _ <;> omega
          · rw [z2 w]
        obtain ⟨z1, z2⟩ := f4 c'
        obtain ⟨y1, y2, y3⟩ := k4 c'
        refine ⟨fun w => ?_, fun w0 w1 w2 => ?_, fun w1 w2 => ?_⟩
        · have e : g1 12 c' = g 12 c' := z2 (fun v => w v.2.2.2)
          rw [y1 (by rw [e]; exact w), e]
        · by_cases hb2 : bt (hrs u b) c' = true
          · have e : g1 12 c' = (r : Int) + 1 := z1 ⟨w0, Nat.zero_le _, hb2, w1⟩
            rw [y1 (by rw [e]; omega), e]
          · have e : g1 12 c' = g 12 c' := z2 (fun v => hb2 v.2.2.1)
            obtain ⟨b', v1, v2, v3, v4⟩ := w2
            refine y2 w0 (by rw [e]; exact w1) ⟨b', ?_, v2, (keep b').mpr v3, v4⟩
            have : b' ≠ b := fun q => by rw [q] at v4; exact hb2 v4
            omega
        · have hb2 : bt (hrs u b) c' = false := w2 b (Nat.le_refl _) c c2
          have e : g1 12 c' = g 12 c' := z2 (fun v => by rw [hb2] at v; cases v.2.2.1)
          exact y3 (by rw [e]; exact w1) (fun b' v1 v2 v3 => w2 b' (by omega) v2 ((keep b').mp v3))
      · have key : xl_X12_passOn (n + 1) 42 [35, x1, (r : Int), (b : Int)] g = xl_X12_passOn n 74 [35, x1, (r : Int), (b : Int), 0, ((0 : Nat) : Int)] g := by
          rw [e_X12_passOn_42, H.2.2.2.2.2.2.1, if_pos c, xg_pos p32, xg_pos (by omega), Int.toNat_natCast, if_neg c2]
          rfl
        obtain ⟨g1, n1, f1, f2, f3, f4⟩ := pas_74 (x1 := x1) (r := r) (b := b) hW (show (0 : Int) ≤ 0 ∧ (0 : Int) ≤ 63 by decide) hr (by omega) 7 0 n g rfl w6.1 (by omega) H
        obtain ⟨g2, n2, k1, k2, k3, k4⟩ := ih (b + 1) n1 g1 (by omega) (by omega) (by omega) (H.fq f3)
        have z : ∀ j : Nat, j < 6 → bt 0 j = false := fun j hj => by
          have : ∀ c : Fin 6, bt 0 c.val = false := by decide +kernel
          exact this ⟨j, hj⟩
        have e : ∀ c' : Nat, g1 12 c' = g 12 c' := fun c' => (f4 c').2 (fun v => by
          have := z c' (by omega)
          rw [this] at v
          cases v.2.2.1)
        refine ⟨g2, n2, by omega, key.trans (f2.trans k2), fun a j w => (k3 a j w).trans (f3 a j w), fun c' => ?_⟩
        obtain ⟨y1, y2, y3⟩ := k4 c'
        rw [e] at y1 y2 y3
        refine ⟨y1, fun w0 w1 ⟨b', v1, v2, v3, v4⟩ => y2 w0 w1 ⟨b', ?_, v2, by rw [e]; exact v3, v4⟩, fun w1 w2 => y3 w1 (fun b' v1 v2 v3 => w2 b' (by omega) v2 (by rw [← e]; exact v3))⟩
        have : b' ≠ b := fun q => by rw [q] at v3; exact c2 v3
        omega
    · refine ⟨g, n, by omega, ?_, fun _ _ _ => rfl, fun c' => ⟨fun _ => rfl, fun w0 w1 ⟨b', v1, v2, _⟩ => by omega, fun w _ => w⟩⟩
      rw [e_X12_passOn_42, H.2.2.2.2.2.2.1, if_neg c, xg_pos (by omega), show (r : Int) + 1 = ((r + 1 : Nat) : Int) by omega]
/-- after r rounds -/
def pI (u : Nat → Int) (a r : Nat) (g : yH) : Prop := g 12 a = 0 ∧ ∀ c : Nat, (c : Int) < u 6 → (g 12 c ≠ -1 ↔ bt (rsN u a r) c = true) ∧ (g 12 c = -1 ∨ (0 ≤ g 12 c ∧ g 12 c ≤ (r : Int))) ∧ (c ≠ a → g 12 c ≠ 0) ∧ ∀ b : Nat, (b : Int) < u 6 → g 12 b ≠ -1 → g 12 b < (r : Int) → bt (hrs u b) c = true → g 12 c ≠ -1
theorem pas_32 {s a : Nat} {t u : Nat → Int} (hW : tW0 u) (ha : (a : Int) < u 6) : ∀ (m r n : Nat) (g : yH), 7 - r = m → (r : Int) ≤ u 6 → 70 * m + 90 ≤ n → hv s t u g → pI u a r g →
    ∃ g2, xl_X12_passOn n 32 [35, (a : Int), (r : Int)] g = some (0, g2) ∧ (∀ a j, a ≠ 12 → g2 a j = g a j) ∧ pI u a (u 6).toNat g2 := by
  have w6 := hW.wd.2.2.2.2
  intro m
  induction m with
  | zero => intro r n g e1 e2; omega
  | succ m ih =>
    intro r n g e1 e2 e3 H I
    obtain ⟨n, rfl⟩ : ∃ n', n = n' + 1 := ⟨n - 1, by omega⟩
    by_cases c : (r : Int) < u 6
    · have key : xl_X12_passOn (n + 1) 32 [35, (a : Int), (r : Int)] g = xl_X12_passOn n 42 [35, (a : Int), (r : Int), ((0 : Nat) : Int)] g := by
        rw [e_X12_passOn_32, H.2.2.2.2.2.2.1, if_pos c]
        rfl
      obtain ⟨g1, n1, f1, f2, f3, f4⟩ := pas_42 (x1 := (a : Int)) (r := r) hW (by omega) 7 0 n g rfl w6.1 (by omega) H
      obtain ⟨i1, i2⟩ := I
      have I1 : pI u a (r + 1) g1 := by
        refine ⟨by rw [(f4 a).1 (by omega)]; exact i1, fun c' hc' => ?_⟩
        obtain ⟨j1, j2, j3, j4⟩ := i2 c' hc'
        obtain ⟨y1, y2, y3⟩ := f4 c'
        -- is there one who heard it last and is heard by c'
        by_cases w : g 12 c' = -1
        · by_cases ex : ∃ b' : Nat, (b' : Int) < u 6 ∧ g 12 b' = (r : Int) ∧ bt (hrs u b') c' = true
          · obtain ⟨b', v2, v3, v4⟩ := ex
            have e : g1 12 c' = (r : Int) + 1 := y2 hc' w ⟨b', Nat.zero_le _, v2, v3, v4⟩
            refine ⟨⟨fun _ => (rsN_s hW ha r (by omega)).mpr (Or.inr ⟨b', v2, (i2 b' v2).1.mp (by omega), v4⟩), fun _ => by omega⟩, Or.inr (by omega), fun _ => by omega, fun b hb _ _ _ => by omega⟩
          · have e : g1 12 c' = -1 := y3 w (fun b' _ v2 v3 => by
              cases q : bt (hrs u b') c' with
              | false => rfl
              | true => exact absurd ⟨b', v2, v3, q⟩ ex)
            have nohear : ∀ b : Nat, (b : Int) < u 6 → g 12 b ≠ -1 → bt (hrs u b) c' = true → False := fun b hb hb2 hb3 => by
              obtain ⟨_, z2, _, _⟩ := i2 b hb
              by_cases v : g 12 b = (r : Int)
              · exact ex ⟨b, hb, v, hb3⟩
              · exact j4 b hb hb2 (by omega) hb3 w
            refine ⟨⟨fun v => absurd e v, fun v => ?_⟩, Or.inl e, fun _ => by omega, fun b hb hb2 hb3 hb4 => ?_⟩
            · rcases (rsN_s hW ha r (by omega)).mp v with v | ⟨b, v1, v2, v3⟩
              · exact absurd (j1.mpr v) (fun q => q w)
              · exact (nohear b v1 ((i2 b v1).1.mpr v2) v3).elim
            · -- b was reached before
              obtain ⟨_, z2, _, _⟩ := i2 b hb
              by_cases v : g 12 b = -1
              · obtain ⟨x1, x2, x3⟩ := f4 b
                by_cases ex2 : ∃ b' : Nat, (b' : Int) < u 6 ∧ g 12 b' = (r : Int) ∧ bt (hrs u b') b = true
                · obtain ⟨b', v2, v3, v4⟩ := ex2
                  have := x2 hb v ⟨b', Nat.zero_le _, v2, v3, v4⟩
                  omega
                · have := x3 v (fun b' _ v2 v3 => by
                    cases q : bt (hrs u b') b with
                    | false => rfl
                    | true => exact absurd ⟨b', v2, v3, q⟩ ex2)
                  exact absurd this hb2
              · exact (nohear b hb v hb4).elim
        · have e : g1 12 c' = g 12 c' := y1 w
          refine ⟨⟨fun _ => (rsN_s hW ha r (by omega)).mpr (Or.inl (j1.mp w)), fun _ => by rw [e]; exact w⟩, by rw [e]; omega, fun v => by rw [e]; exact j3 v, fun b _ _ _ _ => by rw [e]; exact w⟩
      obtain ⟨g2, k2, k3, k4⟩ := ih (r + 1) n1 g1 (by omega) (by omega) (by omega) (H.fq f3) I1
      exact ⟨g2, key.trans (f2.trans k2), fun a j w => (k3 a j w).trans (f3 a j w), k4⟩
    · refine ⟨g, ?_, fun _ _ _ => rfl, by rw [show (u 6).toNat = r by omega]; exact I⟩
      rw [e_X12_passOn_32, H.2.2.2.2.2.2.1, if_neg c]
theorem pas_2 {s a : Nat} {t u : Nat → Int} (hW : tW0 u) (ha : (a : Int) < u 6) : ∀ (m k n : Nat) (g : yH), 7 - k = m → (k : Int) ≤ u 6 → m + 600 ≤ n → hv s t u g → (∀ c : Nat, c < k → g 12 c = -1) →
    ∃ g2, xl_X12_passOn n 2 [35, (a : Int), (k : Int)] g = some (0, g2) ∧ (∀ a j, a ≠ 12 → g2 a j = g a j) ∧ pI u a (u 6).toNat g2 := by
  have w6 := hW.wd.2.2.2.2
  intro m
  induction m with
  | zero => intro k n g e1 e2; omega
  | succ m ih =>
    intro k n g e1 e2 e3 H hc
    obtain ⟨n, rfl⟩ : ∃ n', n = n' + 1 := ⟨n - 1, by omega⟩
    have p32 : g 35 32 = 12 := H.1.2.2.2.p (j := 32) (k := 12) (by decide)
    by_cases c : (k : Int) < u 6
    · obtain ⟨g2, k2, k3, k4⟩ := ih (k + 1) n (zup g 12 k (-1)) (by omega) (by omega) (by omega) (H.fq (fun a j w => zup_ne (by omega))) (fun c' hc' => by
        by_cases w : c' = k
        · rw [w, zup_at]
        · rw [zup_ne (by omega)]
          exact hc c' (by omega))
      refine ⟨g2, ?_, fun a j w => (k3 a j w).trans (zup_ne (by omega)), k4⟩
      rw [e_X12_passOn_2, H.2.2.2.2.2.2.1, if_pos c, xg_pos p32, xg_pos (by omega), xg_pos (by omega), Int.toNat_natCast, show (k : Int) + 1 = ((k + 1 : Nat) : Int) by omega, k2]
    · have H1 : hv s t u (zup g 12 a 0) := H.fq (fun a j w => zup_ne (by omega))
      obtain ⟨s1, s2, s3, s4⟩ := shF ⟨a, by omega⟩
      have I0 : pI u a 0 (zup g 12 a 0) := by
        refine ⟨zup_at _ _ _ _, fun c' hc' => ?_⟩
        have b0 : bt (rsN u a 0) c' = decide (c' = a) := s4 ⟨c', by omega⟩
        rw [b0, decide_eq_true_iff]
        by_cases w : c' = a
        · subst w
          rw [zup_at]
          exact ⟨⟨fun _ => rfl, fun _ => by decide⟩, Or.inr (by decide), fun v => absurd rfl v, fun b _ _ _ _ => by decide⟩
        · rw [zup_ne (by omega), hc c' (by omega)]
          refine ⟨⟨fun v => absurd rfl v, fun v => absurd v w⟩, Or.inl rfl, fun _ => by decide, fun b hb v1 v2 _ => ?_⟩
          by_cases wb : b = a
          · rw [wb, zup_at] at v2
            exact absurd v2 (by decide)
          · rw [zup_ne (by omega)] at v1
            exact absurd (hc b (by omega)) v1
      obtain ⟨g2, k2, k3, k4⟩ := pas_32 hW ha 7 0 n _ rfl w6.1 (by omega) H1 I0
      refine ⟨g2, ?_, fun a j w => (k3 a j w).trans (zup_ne (by omega)), k4⟩
      rw [e_X12_passOn_2, H.2.2.2.2.2.2.1, if_neg c, xg_pos p32, xg_pos (by omega), Int.toNat_natCast]
      exact k2
def cnb (x : Int) (a : Nat) : Nat → Nat → Int
  | 0, _ => 0
  | m + 1, k => (if bt x k = true ∧ k ≠ a then 1 else 0) + cnb x a m (k + 1)
theorem cnbF : ∀ x : Fin 64, ∀ a : Fin 6, ∀ b : Fin 7, a.val < b.val → (x.val : Int) < 2 ^ b.val → bt (x.val : Int) a.val = true → cnb (x.val : Int) a.val b.val 0 = bcn (x.val : Int) - 1 := by decide +kernel
theorem tel_33 {s a : Nat} {x1 x2 : Int} {t u : Nat → Int} {g : yH} (hW : tW0 u) (ha : (a : Int) < u 6) (H : hv s t u g) (I : pI u a (u 6).toNat g) : ∀ (m k n : Nat) (v : Int), (m : Int) + k = u 6 → m < n → 0 ≤ v ∧ v ≤ k → xl_X12_tells n 33 [35, x1, x2, v, (k : Int)] g = some (v + cnb (rsN u a (u 6).toNat) a m k, g) := by
  have w6 := hW.wd.2.2.2.2
  intro m
  induction m with
  | zero =>
    intro k n v e1 e2 e3
    obtain ⟨n, rfl⟩ : ∃ n', n = n' + 1 := ⟨n - 1, by omega⟩
    rw [e_X12_tells_33, H.2.2.2.2.2.2.1, if_neg (by omega)]
    show _ = some (v + 0, g)
    rw [Int.add_zero]
  | succ m ih =>
    intro k n v e1 e2 e3
    obtain ⟨n, rfl⟩ : ∃ n', n = n' + 1 := ⟨n - 1, by omega⟩
    obtain ⟨i1, i2⟩ := I
    obtain ⟨j1, j2, j3, j4⟩ := i2 k (by omega)
    have p32 : g 35 32 = 12 := H.1.2.2.2.p (j := 32) (k := 12) (by decide)
    rw [e_X12_tells_33, H.2.2.2.2.2.2.1, if_pos (by omega), xg_pos p32, xg_pos (by omega), Int.toNat_natCast]
    show _ = some (v + ((if bt (rsN u a (u 6).toNat) k = true ∧ k ≠ a then 1 else 0) + cnb (rsN u a (u 6).toNat) a m (k + 1)), g)
    by_cases c : 0 < g 12 k
    · have hk : k ≠ a := fun q => by rw [q, i1] at c; omega
      rw [if_pos c, if_pos ⟨j1.mp (by omega), hk⟩, xg_pos (by omega), xg_pos (by omega), show (k : Int) + 1 = ((k + 1 : Nat) : Int) by omega, ih (k + 1) n _ (by omega) (by omega) (by omega)]
      congr 2
      omega
    · have hno : ¬ (bt (rsN u a (u 6).toNat) k = true ∧ k ≠ a) := fun q => by
        have z1 := j1.mpr q.1
        have z2 := j3 q.2
        omega
      rw [if_neg c, if_neg hno, xg_pos (by omega), xg_pos (by omega), show (k : Int) + 1 = ((k + 1 : Nat) : Int) by omega, ih (k + 1) n _ (by omega) (by omega) (by omega)]
      congr 2
      omega
theorem tellsR_e {m s : Nat} {x : Int} {t : Nat → Int} {g : yH} (hn : 800 ≤ m) (hq : rQ g) (h4 : ∀ j, j < 12 → 0 ≤ g 4 j ∧ g 4 j ≤ 2) (hs : (s : Int) < g 4 0) (ht : ∀ j, j < 50 → g 5 (50 * s + j) = t j) (hW : tW0 t) : yR (f_X12_tells m [35, (s : Int), x] g) (fun v g2 => v = telV t x ∧ ∃ g1, hdR s t (zup g 35 0 0) g1 ∧ ∀ a j, a ≠ 12 → g2 a j = g1 a j) := by
  refine yR.e e_X12_tells ?_
  refine yR.b (hand_e (by omega) (c0_q hq) (c0_4 h4) (by rw [zup_ne (by omega)]; exact hs) (fun j hj => by rw [zup_ne (by omega)]; exact ht j hj) hW) (fun v g1 ⟨rv, H⟩ => ?_)
  subst rv
  refine yR.f (by decide) ?_
  rw [isBoat_e H.2.1.2.2.2.2.2 hW, xb_some]
  unfold telV
  by_cases c : 0 ≤ x ∧ x < t 6
  · obtain ⟨a, rfl⟩ : ∃ a : Nat, x = (a : Int) := ⟨x.toNat, by omega⟩
    obtain ⟨g2, k2, k3, k4⟩ := pas_2 (s := s) (t := t) hW c.2 7 0 m g1 rfl (hW.wd).2.2.2.2.1 (by omega) H.v (fun c' hc' => by omega)
    have w6 := hW.wd.2.2.2.2
    have e2 : f_X12_passOn m [35, (a : Int)] g1 = some (0, g2) := by rw [e_X12_passOn]; exact k2
    have H2 : hv s t t g2 := H.v.fq k3
    have e3 := tel_33 (x1 := (s : Int)) (x2 := (a : Int)) hW c.2 H2 k4 (t 6).toNat 0 m 0 (by omega) (by omega) (by omega)
    rw [show ((0 : Nat) : Int) = 0 from rfl] at e3
    obtain ⟨b1, b2⟩ := rsN_b hW c.2 (t 6).toNat
    have e4 := cnbF ⟨(rsN t a (t 6).toNat).toNat, by omega⟩ ⟨a, by omega⟩ ⟨(t 6).toNat, by omega⟩ (by show a < (t 6).toNat; omega)
    simp only at e4
    rw [show (((rsN t a (t 6).toNat).toNat : Nat) : Int) = rsN t a (t 6).toNat by omega] at e4
    have hbit : bt (rsN t a (t 6).toNat) a = true := (k4.2 a c.2).1.mp (by rw [k4.1]; decide)
    have e5 := e4 b2 hbit
    rw [if_pos c, if_neg (by decide), e2, xb_some, e3, if_pos c, Int.toNat_natCast, rsN_6 hW c.2, e5]
    exact yR.s ⟨by omega, g1, H, k3⟩
  · rw [if_neg c, if_pos rfl, if_neg c]
    exact yR.s ⟨rfl, g1, H, fun _ _ _ => rfl⟩
theorem RR_tells {m n : Nat} {x w : Int} {h g : yH} (hn : 30 ≤ n) (hm2 : 800 ≤ m) (R : RR True h g) (hw : cPw h) (hL : lnI h) (hm : h 4 1 ≤ 600) (hq : rQ g) (h4 : ∀ j, j < 12 → 0 ≤ g 4 j ∧ g 4 j ≤ 2) : ∃ v h2 g2, f_X11_tells n [1, x, w] h = some (v, h2) ∧ f_X12_tells m [35, x, w] g = some (v, g2) ∧ RR True h2 g2 ∧ ∀ a j, h2 a j = h a j := by
  have hP := R.1
  have n0 := R.n6 (j := 0) (by decide)
  have b0 := h4 0 (by decide)
  refine RR_ask (k := 0) (none' := -1) R hL hm hq h4 (fun c => ?_) (fun c => ?_) (fun s t e hs h6 h4' hW hS hp ht => ?_)
  · rw [e_X11_tells, xg_pos (hP.p (by decide)), findSea_e hP (by omega), xb_some, if_neg c, if_pos (by decide)]
  · refine ⟨-1, zup g 35 0 0, ?_, rfl, R.c0 hL hm⟩
    rw [e_X12_tells, hand_n (c0_q hq) (c0_4 h4) (by rw [zup_ne (by omega)]; exact c), xb_some, if_pos rfl]
  · subst e
    obtain ⟨v, g2, e2, rv, g1, H, fr⟩ := tellsR_e (m := m) (x := w) hm2 hq h4 h4' ht hW
    subst rv
    have R1 : RR True h g1 := (R.c0 hL hm).hd hL hm H
    have q2 : rQ g2 := H.1.2.2.2.fr (fun j _ => fr _ _ (by omega))
    exact ⟨_, h, g2, tellsC_e hn hP hw (by omega) h6 hS hp hW, e2, R1.gf hL hm q2.P (fun a j w => fr a j (by omega)), fun _ _ => rfl⟩
