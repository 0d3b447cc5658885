/-! a question to a sea leaves what is told -/
theorem WH.k7 {g g2 : yH} (h : WH g) (e : k7 g g2) : WH g2 := h.fr (fun a j w => e a j (by omega) (by omega))
theorem k7.c0 {g : yH} : k7 g (zup g 35 0 0) := fun a j w1 w2 => zup_ne (by omega)
theorem hdR.k7 {s : Nat} {t : Nat → Int} {g g2 : yH} (H : hdR s t (zup g 35 0 0) g2) : k7 g g2 := fun a j w1 w2 => by rw [H.2.2.2 a j (by omega) (by omega) (by omega), zup_ne (by omega)]
theorem lyR.k7 {s : Nat} {t : Nat → Int} {g g2 : yH} (H : lyR s t (zup g 35 0 0) g2) : k7 g g2 := fun a j w1 w2 => by rw [H.2.2.2 a j (by omega), zup_ne (by omega)]
theorem ask_k7 {r : yFn} {x v : Int} {As : List Int} {m : Nat} {h g g2 : yH} (R : RR True h g) (h4 : ∀ j, j < 12 → 0 ≤ g 4 j ∧ g 4 j ≤ 2) (e : r m (35 :: x :: As) g = some (v, g2)) (rn : ¬ (0 ≤ x ∧ x < g 4 0) → yR (r m (35 :: x :: As) g) (fun _ g2 => k7 g g2))
    (ask : ∀ (s : Nat) (t : Nat → Int), x = (s : Int) → (s : Int) < g 4 0 → tW0 t → (∀ j, j < 50 → g 5 (50 * s + j) = t j) → yR (r m (35 :: x :: As) g) (fun _ g2 => k7 g g2)) : k7 g g2 := by
  have b0 := h4 0 (by decide)
  by_cases w : 0 ≤ x ∧ x < g 4 0
  · obtain ⟨s, rfl⟩ : ∃ s : Nat, x = (s : Int) := ⟨x.toNat, by omega⟩
    obtain ⟨t, a1, a2, a3, a4⟩ := R.sea (s := s) (by omega) (by omega)
    exact yO_d e (ask s t rfl w.2 a4 a3)
  · exact yO_d e (rn w)
theorem frK_sea {m : Nat} {x w v : Int} {h g g2 : yH} (hn : 7 ≤ m) (R : RR True h g) (hq : rQ g) (h4 : ∀ j, j < 12 → 0 ≤ g 4 j ∧ g 4 j ≤ 2) (e : f_X12_sea m [35, x, w] g = some (v, g2)) : k7 g g2 :=
  ask_k7 R h4 e (fun c => ⟨-1, zup g 35 0 0, by rw [e_X12_sea, hand_n (c0_q hq) (c0_4 h4) (by rw [zup_ne (by omega)]; exact c), xb_some, if_pos rfl], k7.c0⟩) (fun s t ex hs hW ht => by subst ex; exact (seaR_e hn hq h4 hs ht hW).m (fun _ _ q => hdR.k7 q.2))
theorem frK_shoal {m : Nat} {x k w v : Int} {h g g2 : yH} (hn : 7 ≤ m) (R : RR True h g) (hq : rQ g) (h4 : ∀ j, j < 12 → 0 ≤ g 4 j ∧ g 4 j ≤ 2) (e : f_X12_shoal m [35, x, k, w] g = some (v, g2)) : k7 g g2 :=
  ask_k7 R h4 e (fun c => ⟨-1, zup g 35 0 0, by rw [e_X12_shoal, hand_n (c0_q hq) (c0_4 h4) (by rw [zup_ne (by omega)]; exact c), xb_some, if_pos rfl], k7.c0⟩) (fun s t ex hs hW ht => by subst ex; exact (shoalR_e hn hq h4 hs ht hW).m (fun _ _ q => hdR.k7 q.2))
theorem frK_boat {m : Nat} {x k w v : Int} {h g g2 : yH} (hn : 7 ≤ m) (R : RR True h g) (hq : rQ g) (h4 : ∀ j, j < 12 → 0 ≤ g 4 j ∧ g 4 j ≤ 2) (e : f_X12_boat m [35, x, k, w] g = some (v, g2)) : k7 g g2 :=
  ask_k7 R h4 e (fun c => ⟨-1, zup g 35 0 0, by rw [e_X12_boat, hand_n (c0_q hq) (c0_4 h4) (by rw [zup_ne (by omega)]; exact c), xb_some, if_pos rfl], k7.c0⟩) (fun s t ex hs hW ht => by subst ex; exact (boatR_e hn hq h4 hs ht hW).m (fun _ _ q => hdR.k7 q.2))
theorem frK_far {m : Nat} {x k w v : Int} {h g g2 : yH} (hn : 7 ≤ m) (R : RR True h g) (hq : rQ g) (h4 : ∀ j, j < 12 → 0 ≤ g 4 j ∧ g 4 j ≤ 2) (e : f_X12_far m [35, x, k, w] g = some (v, g2)) : k7 g g2 :=
  ask_k7 R h4 e (fun c => ⟨-1, zup g 35 0 0, by rw [e_X12_far, hand_n (c0_q hq) (c0_4 h4) (by rw [zup_ne (by omega)]; exact c), xb_some, if_pos rfl], k7.c0⟩) (fun s t ex hs hW ht => by subst ex; exact (farR_e hn hq h4 hs ht hW).m (fun _ _ q => hdR.k7 q.2))
theorem frK_loud {m : Nat} {x v : Int} {h g g2 : yH} (hn : 24 ≤ m) (R : RR True h g) (hq : rQ g) (h4 : ∀ j, j < 12 → 0 ≤ g 4 j ∧ g 4 j ≤ 2) (e : f_X12_loud m [35, x] g = some (v, g2)) : k7 g g2 :=
  ask_k7 R h4 e (fun c => ⟨-1, zup g 35 0 0, by rw [e_X12_loud, hand_n (c0_q hq) (c0_4 h4) (by rw [zup_ne (by omega)]; exact c), xb_some, if_pos rfl], k7.c0⟩) (fun s t ex hs hW ht => by
    subst ex
    refine yR.e e_X12_loud (yR.b (hand_e (s := s) (t := t) (by omega) (c0_q hq) (c0_4 h4) (by rw [zup_ne (by omega)]; exact hs) (fun j hj => by rw [zup_ne (by omega)]; exact ht j hj) hW) (fun v5 g5 ⟨rv, H⟩ => ?_))
    subst rv
    refine yR.f (by decide) ?_
    have l := loudR_l (x1 := (s : Int)) H.v hW 7 0 m (-1) (-1) rfl hW.wd.2.2.2.2.1 hn
    exact ⟨_, g5, l, hdR.k7 H⟩)
theorem frK_tells {m : Nat} {x w v : Int} {h g g2 : yH} (hn : 800 ≤ m) (R : RR True h g) (hq : rQ g) (h4 : ∀ j, j < 12 → 0 ≤ g 4 j ∧ g 4 j ≤ 2) (e : f_X12_tells m [35, x, w] g = some (v, g2)) : k7 g g2 :=
  ask_k7 R h4 e (fun c => ⟨-1, zup g 35 0 0, by rw [e_X12_tells, hand_n (c0_q hq) (c0_4 h4) (by rw [zup_ne (by omega)]; exact c), xb_some, if_pos rfl], k7.c0⟩) (fun s t ex hs hW ht => by subst ex; exact (tellsR_e hn hq h4 hs ht hW).m (fun _ g2 ⟨_, g1, H, fr⟩ => fun a j w1 w2 => (fr a j (by omega)).trans (hdR.k7 H a j w1 w2)))
theorem frK_least {m : Nat} {x k w v : Int} {h g g2 : yH} (hn : 60 ≤ m) (R : RR True h g) (hq : rQ g) (h4 : ∀ j, j < 12 → 0 ≤ g 4 j ∧ g 4 j ≤ 2) (e : f_X12_least m [35, x, k, w] g = some (v, g2)) : k7 g g2 :=
  ask_k7 R h4 e (fun c => ⟨-1, zup g 35 0 0, by rw [e_X12_least, layTold_n (c0_q hq) (c0_4 h4) (by rw [zup_ne (by omega)]; exact c), xb_some, if_pos rfl], k7.c0⟩) (fun s t ex hs hW ht => by subst ex; exact (leastR_e hn hq h4 hs ht hW).m (fun _ g2 ⟨_, g1, H, fr⟩ => fun a j w1 w2 => (fr a j (by omega)).trans (lyR.k7 H a j w1 w2)))
theorem frK_winds {m : Nat} {x w v : Int} {h g g2 : yH} (hn : 160 ≤ m) (R : RR True h g) (hq : rQ g) (h4 : ∀ j, j < 12 → 0 ≤ g 4 j ∧ g 4 j ≤ 2) (e : f_X12_winds m [35, x, w] g = some (v, g2)) : k7 g g2 := by
  by_cases c2 : 0 ≤ w ∧ w ≤ 2
  · refine ask_k7 R h4 e (fun c => ⟨-1, zup g 35 0 0, by rw [e_X12_winds, in_t c2, xb_some, if_neg (by decide), hand_n (c0_q hq) (c0_4 h4) (by rw [zup_ne (by omega)]; exact c), xb_some, if_pos rfl], k7.c0⟩) (fun s t ex hs hW ht => ?_)
    subst ex
    obtain ⟨v5, g5, e5, rv, H⟩ := hand_e (n := m) (s := s) (t := t) (by omega) (c0_q hq) (c0_4 h4) (by rw [zup_ne (by omega)]; exact hs) (fun j hj => by rw [zup_ne (by omega)]; exact ht j hj) hW
    subst rv
    obtain ⟨v6, g6, e6, rv6, f6⟩ := wndR_l (x1 := (s : Int)) (w := w) (n := m) hW (g := g5) ⟨H.1, H.2.1.1, H.2.1.2.1, H.2.1.2.2.2.2.2, H.2.2.1⟩ (by omega)
    refine ⟨v6, g6, ?_, fun a j w1 w2 => (f6 a j (by omega)).trans (hdR.k7 H a j w1 w2)⟩
    rw [e_X12_winds, in_t c2, xb_some, if_neg (by decide), e5, xb_some, if_neg (by decide), e6]
  · refine yO_d (P := fun _ g2 => k7 g g2) e ?_
    rw [e_X12_winds, in_f c2, xb_some, if_pos rfl]
    exact yR.s k7.c0
/-- the sea in the block, whole -/
theorem WH.sea {s : Nat} {t : Nat → Int} {g : yH} (h : WH g) (hs : s < 2) (hm : (s : Int) < g 4 0) (ht : ∀ j, j < 50 → g 5 (50 * s + j) = t j) : wh0 t := ((h 0 (by decide)).1 s hs hm).c (fun j hj => by
  show t j = g 5 (100 * 0 + 50 * s + j)
  rw [← ht j hj, show 100 * 0 + 50 * s + j = 50 * s + j by omega])
theorem RR_meet {m n : Nat} {x k w : Int} {h g : yH} (hn : 70 ≤ n) (hm2 : 80 ≤ m) (R : RR True h g) (wh : WH g) (hL : lnI h) (hm : h 4 1 ≤ 600) (hq : rQ g) (h4 : ∀ j, j < 12 → 0 ≤ g 4 j ∧ g 4 j ≤ 2) : ∃ v h2 g2, f_X11_meet n [1, x, k, w] h = some (v, h2) ∧ f_X12_meet m [35, x, k, w] g = some (v, g2) ∧ RR True h2 g2 ∧ ∀ a j, h2 a j = h a j := by
  have hP := R.1
  have n0 := R.n6 (j := 0) (by decide)
  have b0 := h4 0 (by decide)
  refine RR_ask (k := 0) (none' := -1) R hL hm hq h4 (fun c => ?_) (fun c => ?_) (fun s t e hs h6 h4' hW hS hp ht => ?_)
  · rw [e_X11_meet, xg_pos (hP.p (by decide)), findSea_e hP (by omega), xb_some, if_neg c, if_pos (by decide)]
  · refine ⟨-1, zup g 35 0 0, ?_, rfl, R.c0 hL hm⟩
    rw [e_X12_meet, layTold_n (c0_q hq) (c0_4 h4) (by rw [zup_ne (by omega)]; exact c), xb_some, if_pos rfl]
  · subst e
    have hh : wh0 t := wh.sea hs h4' ht
    obtain ⟨v, g2, e2, rv, g1, H, fr⟩ := meetR_e (m := m) (x := k) (y := w) hm2 hq h4 h4' ht hW hh
    subst rv
    have R1 : RR True h g1 := (R.c0 hL hm).ly hL hm H
    have q2 : rQ g2 := H.1.1.1.2.2.2.fr (fun j _ => fr _ _ (by omega))
    exact ⟨_, h, g2, meetC_e hn hP (by omega) h6 hS hp hW hh, e2, R1.gf hL hm q2.P (fun a j w => fr a j (by omega)), fun _ _ => rfl⟩
theorem frK_meet {m : Nat} {x k w v : Int} {h g g2 : yH} (hn : 80 ≤ m) (R : RR True h g) (wh : WH g) (hq : rQ g) (h4 : ∀ j, j < 12 → 0 ≤ g 4 j ∧ g 4 j ≤ 2) (e : f_X12_meet m [35, x, k, w] g = some (v, g2)) : k7 g g2 :=
  ask_k7 R h4 e (fun c => ⟨-1, zup g 35 0 0, by rw [e_X12_meet, layTold_n (c0_q hq) (c0_4 h4) (by rw [zup_ne (by omega)]; exact c), xb_some, if_pos rfl], k7.c0⟩) (fun s t ex hs hW ht => by
    subst ex
    have b0 := h4 0 (by decide)
    exact (meetR_e hn hq h4 hs ht hW (wh.sea (by omega) hs ht)).m (fun _ g2 ⟨_, g1, H, fr⟩ => fun a j w1 w2 => (fr a j (by omega)).trans (lyR.k7 H a j w1 w2)))
theorem frK_deed {F : Prop} {m : Nat} {x k w v : Int} {h g g2 : yH} (R : RR F h g) (h4 : ∀ j, j < 12 → 0 ≤ g 4 j ∧ g 4 j ≤ 2) (e : f_X12_deed m [35, x, k, w] g = some (v, g2)) : k7 g g2 := by
  have gP := R.2.1
  have b1 := h4 1 (by decide)
  by_cases c : 0 ≤ x ∧ x < g 4 1
  · obtain ⟨d, rfl⟩ : ∃ d : Nat, x = (d : Int) := ⟨x.toNat, by omega⟩
    obtain ⟨t, a1, a2, a3⟩ := R.2.2.1.2.2.2.2.2.2.1 d (by omega)
    have tw := a3 c.2
    have e2 := deedR_e (n := m) (k := k) (w := w) (t := t) gP h4 (d := d) (by omega) (by omega) (fun j hj => by rw [← a2 j hj, show 242 * 0 + 121 * d + j = 121 * d + j by omega]) tw.1
    exact yO_d (P := fun _ g2 => k7 g g2) e ⟨_, _, e2, fun a j w1 w2 => by rw [zup_ne (by omega), zup_ne (by omega)]⟩
  · have e2 : f_X12_deed m [35, x, k, w] g = some (-2, zup (zup g 35 0 0) 35 33 x) := by
      rw [e_X12_deed, hasDay_e (gP.fr (fun j hj => by rw [zup_ne (by omega)])) (fun j hj => by rw [zup_ne (by omega)]; exact h4 j hj), xb_some, zup_ne (show ¬ (4 = 35 ∧ 1 = 0) by omega), if_neg c, if_pos rfl]
    exact yO_d (P := fun _ g2 => k7 g g2) e ⟨_, _, e2, fun a j w1 w2 => by rw [zup_ne (by omega), zup_ne (by omega)]⟩
theorem frK_count {m : Nat} {x v : Int} {g g2 : yH} (gP : rP g) (e : f_X12_count m [35, x] g = some (v, g2)) : k7 g g2 := by
  refine yO_d (P := fun _ g2 => k7 g g2) e (yR.e e_X12_count ?_)
  by_cases w : 0 ≤ x ∧ x ≤ 2
  · rw [in_t w, xb_some, if_neg (by decide), xg_pos (by rw [zup_ne (by omega)]; exact gP.2.2.2.2.1), xg_pos (by omega)]
    exact yR.s k7.c0
  · rw [in_f w, xb_some, if_pos rfl]
    exact yR.s k7.c0
theorem frK_fault {m : Nat} {x v : Int} {g g2 : yH} (gP : rP g) (e : f_X12_fault m [35, x] g = some (v, g2)) : k7 g g2 := by
  refine yO_d (P := fun _ g2 => k7 g g2) e (yR.e e_X12_fault ?_)
  by_cases w : x = 0
  · rw [if_pos w, xg_pos gP.2.2.1]
    exact yR.s k7.c0
  · rw [if_neg w]
    by_cases w2 : x = 1
    · rw [if_pos w2, xg_pos gP.2.2.2.1]
      exact yR.s k7.c0
    · rw [if_neg w2]
      exact yR.s k7.c0
