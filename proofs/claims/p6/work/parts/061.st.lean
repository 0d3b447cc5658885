variable {η : zRn}
/-! what is there of itself: the tables of the Reader, the words as String constants; and what every method finds -/
def zTn (i : Nat) : String := ["LINES_FROM", "NUMBERS_OF_LINE", "LEAST_NUMBER", "MOST_NUMBER"].getD i ""
def zTv (i : Nat) : List Int := [[0, 7, 13, 15], [2, 2, 1, 5, 3, 3, 1, 2, 3, 2, 2, 2, 0, 2, 2], [2, 2, 0, 0, 0, 0, 0, 0, 0, 0, 1, 0, 0, 0, 0, 0, 1, 0, 0, 1, 0, 1, 0, 0, 0, 0, 0, 0, 0, 0, 0, 0, 0, 0, 0, 0, 0, 0, 0, 0, 0, 0, 1, 0, 0, 0, 1, 0, 0, 0, 0, 0, 0, 0, 0, 0, 0, 0, 0, 0, 0, 0, 0, 0, 0, 0, 0, 0, 0, 0, 0, 0, 0, 0, 0], [8, 8, 0, 0, 0, 3, 3, 0, 0, 0, 9, 0, 0, 0, 0, 2, 20, 5, 20, 30, 63, 99, 4, 0, 0, 63, 20, 2, 0, 0, 5, 0, 0, 0, 0, 5, 3, 0, 0, 0, 5, 5, 20, 0, 0, 5, 20, 0, 0, 0, 5, 5, 0, 0, 0, 5, 5, 0, 0, 0, 0, 0, 0, 0, 0, 99, 99, 0, 0, 0, 8, 8, 0, 0, 0]].getD i []
def zSl : List Nat := [4, 4, 4, 5, 5, 4, 4, 3, 5, 3, 5, 3, 4, 4, 5]
def zSb : List (List Int32) := [[115, 105, 122, 101], [119, 105, 110, 100], [110, 101, 116, 115], [99, 111, 97, 115, 116], [115, 104, 111, 97, 108], [98, 111, 97, 116], [100, 101, 97, 102], [114, 111, 119], [99, 108, 97, 105, 109], [97, 108, 108], [115, 112, 108, 105, 116], [110, 101, 116], [119, 97, 105, 116], [115, 97, 105, 100], [97, 104, 101, 97, 100]]
def zSi : List Nat := [137, 139, 141, 143, 145, 147, 149, 151, 153, 155, 157, 159, 161, 163, 165]
def zSt : List String := ["size", "wind", "nets", "coast", "shoal", "boat", "deaf", "row", "claim", "all", "split", "net", "wait", "said", "ahead"]
/-- the kind of a String of so many bytes -/
def zKs (n : Nat) : Nat := 56 + n
def zST (η : zRn) (L : List Nat) (Θ : Nat → Option Nat) (U : State) : Prop := ∃ (tb adK adV cK : Nat → Nat) (fv : Option Nat),
  (∀ i, i < 4 → va_Z RX4 (zTn i) "[I" (.ref (tb i)) (fun q => q ∈ L) U U.heap ∧ va_T .int (tb i) (zTv i).length (fun j => .int (Int32.ofInt ((zTv i).getD j 0))) (fun q => q ∈ L) U U.heap) ∧
  vk_S 15 zSl zSb adK adV (fun q => q ∈ L) U U.heap ∧ (∀ i, i < 15 → vk_R RX4 (zSi.getD i 0) (zSt.getD i "") (adK i) U) ∧
  va_Z RJ0 "COMPACT_STRINGS" "Z" (.int 1) (fun q => q ∈ L) U U.heap ∧ va_Z RJ3 "SIOOBE_FORMATTER" "Ljava/util/function/BiFunction;" (va_rf fv) (fun q => q ∈ L) U U.heap ∧
  (∀ i, i < 15 → Θ (cK i) = some (zKs (zSl.getD i 0)) ∧ cK i = 1000000 + i ∧ η.1 (cK i) = adK i) ∧ ∀ a n, 3 ≤ n → n ≤ 5 → Θ a = some (zKs n) → ∃ i, i < 15 ∧ cK i = a ∧ zSl.getD i 0 = n
theorem zST.go {L : List Nat} {Θ : Nat → Option Nat} {s U : State} (h : zST η L Θ s) (hW : s.WarmedH U.vm) (hq : ∀ q, q < s.heap.size → q ∉ L → U.heap[q]? = s.heap[q]?) : zST η L Θ U := by
  obtain ⟨tb, adK, adV, cK, fv, h1, h2, h3, h4, h5, h6, h7⟩ := h
  exact ⟨tb, adK, adV, cK, fv, fun i hi => ⟨((h1 i hi).1.moved hW.alike).kept hq, ((h1 i hi).2.moved hW.alike).kept hq⟩, (h2.moved hW.alike).kept hq, fun i hi => (h3 i hi).warm hW, (h4.moved hW.alike).kept hq, (h5.moved hW.alike).kept hq, h6, h7⟩
theorem zST.same {L : List Nat} {Θ : Nat → Option Nat} {s U : State} (h : zST η L Θ s) (hv : U.vm = s.vm) (hh : U.heap = s.heap) : zST η L Θ U := by
  obtain ⟨tb, adK, adV, cK, fv, h1, h2, h3, h4, h5, h6, h7⟩ := h
  have ha : s.vm.Alike U.vm := by rw [hv]; exact Vm.Alike.refl s.vm
  have hq : ∀ q : Nat, q < s.heap.size → ¬ (fun q => q ∈ L) q → U.heap[q]? = s.heap[q]? := fun q _ _ => by rw [hh]
  exact ⟨tb, adK, adV, cK, fv, fun i hi => ⟨((h1 i hi).1.moved ha).kept hq, ((h1 i hi).2.moved ha).kept hq⟩, (h2.moved ha).kept hq, fun i hi => (h3 i hi).same hv, (h4.moved ha).kept hq, (h5.moved ha).kept hq, h6, h7⟩
def zKP : zKPt := fun η D cy L Θ U => KW D cy U ∧ zST η L Θ U
theorem zkp_ok : zKPok vwCl tyW zKP := by
  refine ⟨fun η D cy L Θ U h => ⟨h.1.1, rfl, rfl, rfl, fun t h1 h2 => ?_⟩, fun η D cy L Θ s U h hW _ hq => ⟨h.1.warm hW, h.2.go hW hq⟩, fun η D cy L Θ U g mk a h => ⟨h.1.call, h.2.same rfl rfl⟩⟩
  rcases (show t = 3 ∨ t = 4 ∨ t = 5 ∨ t = 6 by omega) with rfl | rfl | rfl | rfl
  · exact ⟨_, rfl⟩
  · exact ⟨_, rfl⟩
  · exact ⟨_, rfl⟩
  · exact ⟨_, rfl⟩
