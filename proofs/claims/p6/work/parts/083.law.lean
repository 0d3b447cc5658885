variable {η : zRn}
/-! what the law keeps of the two: how much is told, which images are there and how much each holds; the seas that are told -/
def rSz (g : Nat → Nat → Int) (b k : Nat) : Int := g (g b 2).toNat k
def rMn (g : Nat → Nat → Int) (b k : Nat) : Int := g (g b 5).toNat k
def rSe (g : Nat → Nat → Int) (b k : Nat) : Int := g (g b 6).toNat k
def lJb (g : Nat → Nat → Int) (b t : Nat) : Prop := (0 < rMn g b (3 * t) → 2 ≤ rSe g b (100 * t) ∧ 1 ≤ rSe g b (100 * t + 4)) ∧ (1 < rMn g b (3 * t) → 2 ≤ rSe g b (100 * t + 50) ∧ 1 ≤ rSe g b (100 * t + 54))
theorem z_ptr {kds : List zKD} {D : va_G} {cl : List vw_C} {cy : Nat → ClassId} {L : List Nat} {Θ : Nat → Option Nat} {h : Nat → Nat → Int} {H : Heap} (hH : zH η kds D cl cy L Θ h H) {a kk j t : Nat} {B : Int} {K : zKD} (ha : Θ a = some kk) (hK : kds[kk]? = some K) (hj : j < K.2.2.1) (ht : zty K j = (t + 2, 0, B)) : 0 ≤ h a j ∧ Θ (h a j).toNat = some t := by
  obtain ⟨h1, h2, -⟩ := zH_in hH ha hK hj
  rw [ht] at h1 h2
  rcases h1 with h1 | h1
  · simp only at h2
    omega
  · exact h1
theorem z_ptrn {kds : List zKD} {D : va_G} {cl : List vw_C} {cy : Nat → ClassId} {L : List Nat} {Θ : Nat → Option Nat} {h : Nat → Nat → Int} {H : Heap} (hH : zH η kds D cl cy L Θ h H) {a kk j t : Nat} {A B : Int} {K : zKD} (ha : Θ a = some kk) (hK : kds[kk]? = some K) (hj : j < K.2.2.1) (ht : zty K j = (t + 2, A, B)) : h a j = -1 ∨ (0 ≤ h a j ∧ Θ (h a j).toNat = some t) := by
  obtain ⟨h1, h2, -⟩ := zH_in hH ha hK hj
  rw [ht] at h1
  exact h1
theorem z_num {kds : List zKD} {D : va_G} {cl : List vw_C} {cy : Nat → ClassId} {L : List Nat} {Θ : Nat → Option Nat} {h : Nat → Nat → Int} {H : Heap} (hH : zH η kds D cl cy L Θ h H) {a kk j : Nat} {A B : Int} {K : zKD} (ha : Θ a = some kk) (hK : kds[kk]? = some K) (hj : j < K.2.2.1) (ht : zty K j = (0, A, B)) : A ≤ h a j ∧ h a j ≤ B := by
  obtain ⟨-, h2, h3⟩ := zH_in hH ha hK hj
  rw [ht] at h2 h3
  exact ⟨h2, h3⟩
section LRC
variable {D : va_G} {cy : Nat → ClassId} {L : List Nat} {Θ : Nat → Option Nat} {h h' : Nat → Nat → Int} {H : Heap} {a : Nat}
theorem zkd_62 : zkds[62]? = some (2, 6, 3, [(31, (-1), 2147483647), (32, (-1), 2147483647), (33, (-1), 2147483647)]) := rfl
end LRC
section LRR
variable {D : va_G} {cy : Nat → ClassId} {M : List Nat} {Ξ : Nat → Option Nat} {g g' : Nat → Nat → Int} {H : Heap} {b : Nat}
theorem zkm_35 : zkdm[35]? = some (zkdm.getD 35 (0, 0, 0, [])) := rfl
theorem zkm_4 : zkdm[4]? = some (zkdm.getD 4 (0, 0, 0, [])) := rfl
theorem zkm_5 : zkdm[5]? = some (zkdm.getD 5 (0, 0, 0, [])) := rfl
theorem rP5 (hH : zH η zkdm D vwCl cy M Ξ g H) (hb : Ξ b = some 35) : 0 ≤ g b 5 ∧ Ξ (g b 5).toNat = some 4 := z_ptr (B := 2147483647) hH hb zkm_35 (by decide +kernel) (by decide +kernel)
theorem rP6 (hH : zH η zkdm D vwCl cy M Ξ g H) (hb : Ξ b = some 35) : 0 ≤ g b 6 ∧ Ξ (g b 6).toNat = some 5 := z_ptr (B := 2147483647) hH hb zkm_35 (by decide +kernel) (by decide +kernel)
theorem rBm (hH : zH η zkdm D vwCl cy M Ξ g H) (hb : Ξ b = some 35) {k : Nat} (hk : k < 12) : 0 ≤ rMn g b k ∧ rMn g b k ≤ 2 := by
  refine z_num hH (rP5 hH hb).2 zkm_4 (show k < 12 from hk) ?_
  unfold zty
  rw [show (zkdm.getD 4 (0, 0, 0, [])).2.2.2 = [(0, 0, 2)] from rfl]
  simp [Nat.mod_one]
theorem rBe0 (hH : zH η zkdm D vwCl cy M Ξ g H) (hb : Ξ b = some 35) {k : Nat} (hk : k ∈ [0, 50, 100, 150, 200, 250, 300, 350]) : 0 ≤ rSe g b k ∧ rSe g b k ≤ 8 := by
  refine z_num hH (rP6 hH hb).2 zkm_5 ?_ ?_
  · show k < 400
    simp only [List.mem_cons, List.not_mem_nil, or_false] at hk
    omega
  · simp only [List.mem_cons, List.not_mem_nil, or_false] at hk
    rcases hk with rfl | rfl | rfl | rfl | rfl | rfl | rfl | rfl <;> decide +kernel
theorem rBe4 (hH : zH η zkdm D vwCl cy M Ξ g H) (hb : Ξ b = some 35) {k : Nat} (hk : k ∈ [4, 54, 104, 154, 204, 254, 304, 354]) : 0 ≤ rSe g b k ∧ rSe g b k ≤ 9 := by
  refine z_num hH (rP6 hH hb).2 zkm_5 ?_ ?_
  · show k < 400
    simp only [List.mem_cons, List.not_mem_nil, or_false] at hk
    omega
  · simp only [List.mem_cons, List.not_mem_nil, or_false] at hk
    rcases hk with rfl | rfl | rfl | rfl | rfl | rfl | rfl | rfl <;> decide +kernel
def bKp (g g' : Nat → Nat → Int) (b t : Nat) : Prop := rSz g' b t = rSz g b t ∧ rMn g' b (3 * t) = rMn g b (3 * t) ∧ rSe g' b (100 * t) = rSe g b (100 * t) ∧ rSe g' b (100 * t + 4) = rSe g b (100 * t + 4) ∧ rSe g' b (100 * t + 50) = rSe g b (100 * t + 50) ∧ rSe g' b (100 * t + 54) = rSe g b (100 * t + 54)
theorem bKp.J {t : Nat} (h : bKp g g' b t) (hj : lJb g b t) : lJb g' b t := by
  obtain ⟨-, h2, h3, h4, h5, h6⟩ := h
  unfold lJb
  rw [h2, h3, h4, h5, h6]
  exact hj
end LRR
/-! values of a call -/
def zea (t n : Nat) : List zAV := (t, 1, 0) :: (List.range n).map (fun i => (0, i + 2, 0))
theorem zg_n : zge [] [] := ⟨rfl, fun i q h => by simp at h⟩
theorem zg_c {x : Int} {q : zIV} {σ : List Int} {env : List zIV} (h1 : q.1 ≤ x) (h2 : x ≤ q.2) (h : zge σ env) : zge (x :: σ) (q :: env) := by
  refine ⟨by simp [h.1], fun i r hr => ?_⟩
  cases i with
  | zero =>
    simp at hr
    subst hr
    simpa using ⟨h1, h2⟩
  | succ i =>
    simp at hr
    simpa using h.2 i r hr
theorem zg_app {σ τ : List Int} {e1 e2 : List zIV} (h1 : zge σ e1) (h2 : zge τ e2) : zge (σ ++ τ) (e1 ++ e2) := by
  refine ⟨by simp [h1.1, h2.1], fun i q hi => ?_⟩
  by_cases hlt : i < e1.length
  · rw [List.getElem?_append_left hlt] at hi
    rw [z_gd (by rw [h1.1]; exact hlt)]
    exact h1.2 i q hi
  · rw [List.getElem?_append_right (by omega)] at hi
    have := h2.2 _ _ hi
    rw [List.getD_eq_getElem?_getD, List.getElem?_append_right (by rw [h1.1]; omega), h1.1, ← List.getD_eq_getElem?_getD]
    exact this
theorem z_gr2 {σ τ : List Int} {i : Nat} : (σ ++ τ).getD (σ.length + i) 0 = τ.getD i 0 := by
  rw [List.getD_eq_getElem?_getD, List.getElem?_append_right (by omega), show σ.length + i - σ.length = i by omega, ← List.getD_eq_getElem?_getD]
theorem zea_ga {Θ : Nat → Option Nat} {kk a : Nat} {As T : List Int} (ha : Θ a = some kk) (hA : ∀ x ∈ As, -2147483648 ≤ x ∧ x ≤ 2147483647) : ∀ q ∈ zea (kk + 2) As.length, zga Θ (([0, (a : Int)] ++ As) ++ T) q := by
  intro q hq
  rcases List.mem_cons.mp hq with rfl | hq
  · refine ⟨by simp, Or.inr ⟨?_, ?_⟩⟩
    · show 0 ≤ (a : Int) + 0
      omega
    · show Θ ((a : Int) + 0).toNat = some kk
      rw [Int.add_zero, Int.toNat_natCast]
      exact ha
  · obtain ⟨i, hi, rfl⟩ := List.mem_map.mp hq
    have hi := List.mem_range.mp hi
    have e : zev (([0, (a : Int)] ++ As) ++ T) (0, i + 2, 0) = As[i] := by
      unfold zev
      simp only
      rw [z_gd (by simp; omega), Nat.add_comm i 2, show 2 = [0, (a : Int)].length from rfl, z_gr2, Int.add_zero, List.getD_eq_getElem?_getD, List.getElem?_eq_getElem hi]
      rfl
    refine ⟨by simp; omega, ?_⟩
    rw [e]
    exact hA _ (List.getElem_mem hi)
theorem zea_vo {kk a : Nat} {As T : List Int} : (zea (kk + 2) As.length).map (zvo η (([0, (a : Int)] ++ As) ++ T)) = .ref (η.1 a) :: As.map (fun x => .int (Int32.ofInt x)) := by
  unfold zea
  rw [List.map_cons, List.map_map]
  have e1 : zvo η (([0, (a : Int)] ++ As) ++ T) (kk + 2, 1, 0) = .ref (η.1 a) := by
    show zdec η (kk + 2) ((a : Int) + 0) = _
    rw [Int.add_zero, z_dr]
  rw [e1]
  refine congrArg (List.cons _) ?_
  · apply List.ext_getElem (by simp)
    intro i h1 h2
    simp only [List.getElem_map, List.getElem_range, Function.comp]
    have hi : i < As.length := by simpa using h1
    have e : zev (([0, (a : Int)] ++ As) ++ T) (0, i + 2, 0) = As[i] := by
      unfold zev
      simp only
      rw [z_gd (by simp; omega), Nat.add_comm i 2, show 2 = [0, (a : Int)].length from rfl, z_gr2, Int.add_zero, List.getD_eq_getElem?_getD, List.getElem?_eq_getElem hi]
      rfl
    unfold zvo
    rw [e]
    rfl
/-- all ends give a number -/
def zone1 (outs : List zAS) : Bool := outs.all (fun o => match o.2.2.1 with
  | [q] => decide (q.1 = 0)
  | _ => false)
theorem z_one1 {outs : List zAS} (h : zone1 outs = true) {o : zAS} (ho : o ∈ outs) {σ : List Int} {v : Option Value} (hv : v.toList = o.2.2.1.map (zvo η σ)) : ∃ q : zAV, o.2.2.1 = [q] ∧ q.1 = 0 ∧ v.toList = [.int (Int32.ofInt (zev σ q))] := by
  have := List.all_eq_true.mp h o ho
  split at this
  · rename_i q hq
    have h0 := of_decide_eq_true this
    refine ⟨q, hq, h0, ?_⟩
    rw [hv, hq, List.map_cons, List.map_nil]
    unfold zvo
    rw [h0]
    rfl
  · cases this
/-- a known slot -/
theorem z_ov1 {Θ : Nat → Option Nat} {h : Nat → Nat → Int} {σ : List Int} {k i sl t j : Nat} {r : List zOV} (h1 : i < σ.length) (h2 : j < σ.length) (h3 : 0 ≤ σ.getD i 0) (h4 : Θ (σ.getD i 0).toNat = some k) (h5 : h (σ.getD i 0).toNat sl = σ.getD j 0) (h6 : zok Θ t (σ.getD j 0)) (hr : zgv Θ h σ r) : zgv Θ h σ (((k, i), sl, (t, j, 0)) :: r) := by
  intro o ho
  rcases List.mem_cons.mp ho with rfl | ho
  · exact ⟨h1, ⟨h2, by show zok Θ t (σ.getD j 0 + 0); rw [Int.add_zero]; exact h6⟩, h3, h4, by show h _ sl = σ.getD j 0 + 0; rw [Int.add_zero]; exact h5⟩
  · exact hr o ho
theorem z_ov0 {Θ : Nat → Option Nat} {h : Nat → Nat → Int} {σ : List Int} : zgv Θ h σ [] := fun o ho => by cases ho
theorem z_rl0 {σ : List Int} : zgr σ [] := fun o ho => by cases ho
