/-! what the start gives of statics and Strings -/
def lwG : Cond := Jvm.Cond.and given_1 narrow_1
def zTm15 (i : Nat) : Term := .string RX4 (zSi.getD i 0)
def lwpa : List Nat := [5, 17, 35, 113]
def lwpn : List Nat := [6, 18, 36, 114]
def lwpe0 : List Nat := [7, 8, 9, 10]
def lwpe1 : List Nat := [19, 20, 21, 22, 23, 24, 25, 26, 27, 28, 29, 30, 31, 32, 33]
def lwpe2 : List Nat := [37, 38, 39, 40, 41, 42, 43, 44, 45, 46, 47, 48, 49, 50, 51, 52, 53, 54, 55, 56, 57, 58, 59, 60, 61, 62, 63, 64, 65, 66, 67, 68, 69, 70, 71, 72, 73, 74, 75, 76, 77, 78, 79, 80, 81, 82, 83, 84, 85, 86, 87, 88, 89, 90, 91, 92, 93, 94, 95, 96, 97, 98, 99, 100, 101, 102, 103, 104, 105, 106, 107, 108, 109, 110, 111]
def lwpe3 : List Nat := [115, 116, 117, 118, 119, 120, 121, 122, 123, 124, 125, 126, 127, 128, 129, 130, 131, 132, 133, 134, 135, 136, 137, 138, 139, 140, 141, 142, 143, 144, 145, 146, 147, 148, 149, 150, 151, 152, 153, 154, 155, 156, 157, 158, 159, 160, 161, 162, 163, 164, 165, 166, 167, 168, 169, 170, 171, 172, 173, 174, 175, 176, 177, 178, 179, 180, 181, 182, 183, 184, 185, 186, 187, 188, 189]
def lwpe (i : Nat) : List Nat := [lwpe0, lwpe1, lwpe2, lwpe3].getD i []
def lwps : List (List Nat) := [[242, 243, 244, 245], [250, 251, 252, 253], [259, 260, 261, 262], [269, 270, 271, 272], [281, 282, 283, 284], [294, 295, 296, 297], [307, 308, 309, 310], [321, 322, 323, 324], [335, 336, 337, 338], [352, 353, 354, 355], [368, 369, 370, 371], [387, 388, 389, 390], [405, 406, 407, 408], [425, 426, 427, 428], [446, 447, 448, 449]]
def lwpt : List (List Nat) := [[246, 247, 248, 249], [254, 255, 256, 257], [263, 264, 265, 266], [273, 274, 275, 276, 277], [285, 286, 287, 288, 289], [298, 299, 300, 301], [311, 312, 313, 314], [325, 326, 327], [339, 340, 341, 342, 343], [356, 357, 358], [372, 373, 374, 375, 376], [391, 392, 393], [409, 410, 411, 412], [429, 430, 431, 432], [450, 451, 452, 453, 454]]
def lwpq : List (List Nat) := [[0, 258, 267, 278, 290, 302, 315, 328, 344, 359, 377, 394, 413, 433, 455], [0, 0, 268, 279, 291, 303, 316, 329, 345, 360, 378, 395, 414, 434, 456], [0, 0, 0, 280, 292, 304, 317, 330, 346, 361, 379, 396, 415, 435, 457], [0, 0, 0, 0, 293, 305, 318, 331, 347, 362, 380, 397, 416, 436, 458], [0, 0, 0, 0, 0, 306, 319, 332, 348, 363, 381, 398, 417, 437, 459], [0, 0, 0, 0, 0, 0, 320, 333, 349, 364, 382, 399, 418, 438, 460], [0, 0, 0, 0, 0, 0, 0, 334, 350, 365, 383, 400, 419, 439, 461], [0, 0, 0, 0, 0, 0, 0, 0, 351, 366, 384, 401, 420, 440, 462], [0, 0, 0, 0, 0, 0, 0, 0, 0, 367, 385, 402, 421, 441, 463], [0, 0, 0, 0, 0, 0, 0, 0, 0, 0, 386, 403, 422, 442, 464], [0, 0, 0, 0, 0, 0, 0, 0, 0, 0, 0, 404, 423, 443, 465], [0, 0, 0, 0, 0, 0, 0, 0, 0, 0, 0, 0, 424, 444, 466], [0, 0, 0, 0, 0, 0, 0, 0, 0, 0, 0, 0, 0, 445, 467], [0, 0, 0, 0, 0, 0, 0, 0, 0, 0, 0, 0, 0, 0, 468], [0, 0, 0, 0, 0, 0, 0, 0, 0, 0, 0, 0, 0, 0, 0]]
set_option maxRecDepth 100000 in
theorem lwg_a : ∀ i : Fin 4, (flatC lwG)[lwpa.getD i.1 0]? = some (Cond.arrayOf (.static RX4 (zTn i.1) "[I") .int) ∧ (flatC lwG)[lwpn.getD i.1 0]? = some (Cond.eq (.length (.static RX4 (zTn i.1) "[I")) (.int (Int32.ofNat (zTv i.1).length))) := by decide +kernel
set_option maxRecDepth 100000 in
theorem lwg_e0 : ∀ j : Fin 4, (flatC lwG)[lwpe0.getD j.1 0]? = some (Cond.eq (.elem (.static RX4 (zTn 0) "[I") (.int (Int32.ofNat j.1))) (.int (Int32.ofInt ((zTv 0).getD j.1 0)))) := by decide +kernel
set_option maxRecDepth 100000 in
theorem lwg_e1 : ∀ j : Fin 15, (flatC lwG)[lwpe1.getD j.1 0]? = some (Cond.eq (.elem (.static RX4 (zTn 1) "[I") (.int (Int32.ofNat j.1))) (.int (Int32.ofInt ((zTv 1).getD j.1 0)))) := by decide +kernel
set_option maxRecDepth 100000 in
theorem lwg_e2 : ∀ j : Fin 75, (flatC lwG)[lwpe2.getD j.1 0]? = some (Cond.eq (.elem (.static RX4 (zTn 2) "[I") (.int (Int32.ofNat j.1))) (.int (Int32.ofInt ((zTv 2).getD j.1 0)))) := by decide +kernel
set_option maxRecDepth 100000 in
theorem lwg_e3 : ∀ j : Fin 75, (flatC lwG)[lwpe3.getD j.1 0]? = some (Cond.eq (.elem (.static RX4 (zTn 3) "[I") (.int (Int32.ofNat j.1))) (.int (Int32.ofInt ((zTv 3).getD j.1 0)))) := by decide +kernel
set_option maxRecDepth 100000 in
theorem lwg_s : ∀ i : Fin 15, (flatC lwG)[(lwps.getD i.1 []).getD 0 0]? = some (Cond.exactly (zTm15 i.1) "java/lang/String") ∧ (flatC lwG)[(lwps.getD i.1 []).getD 1 0]? = some (Cond.eq (.field (zTm15 i.1) "java/lang/String" "coder" "B") (.int 0)) ∧ (flatC lwG)[(lwps.getD i.1 []).getD 2 0]? = some (Cond.arrayOf (.field (zTm15 i.1) "java/lang/String" "value" "[B") .byte) ∧ (flatC lwG)[(lwps.getD i.1 []).getD 3 0]? = some (Cond.eq (.length (.field (zTm15 i.1) "java/lang/String" "value" "[B")) (.int (Int32.ofNat (zSl.getD i.1 0)))) := by decide +kernel
set_option maxRecDepth 100000 in
theorem lwg_t : ∀ i : Fin 15, ∀ j : Fin 5, j.1 < zSl.getD i.1 0 → (flatC lwG)[(lwpt.getD i.1 []).getD j.1 0]? = some (Cond.eq (.elem (.field (zTm15 i.1) "java/lang/String" "value" "[B") (.int (Int32.ofNat j.1))) (.int ((zSb.getD i.1 []).getD j.1 0))) := by decide +kernel
set_option maxRecDepth 100000 in
theorem lwg_n : ∀ i j : Fin 15, i.1 < j.1 → (flatC lwG)[(lwpq.getD i.1 []).getD j.1 0]? = some (Cond.not (Cond.eq (zTm15 i.1) (zTm15 j.1))) := by decide +kernel
set_option maxRecDepth 100000 in
theorem lwf_z : Cond.eq (.static RJ0 "COMPACT_STRINGS" "Z") (.int 1) ∈ flatC lwG ∧ Cond.isRef (.static RJ3 "SIOOBE_FORMATTER" "Ljava/util/function/BiFunction;") ∈ flatC lwG := ⟨List.mem_of_getElem? (i := 11) (by decide +kernel), List.mem_of_getElem? (i := 12) (by decide +kernel)⟩
def lwql : List Nat := [662, 738, 756, 758]
def lwqr : List Nat := [666, 667, 668, 669, 670, 671, 672, 673, 674, 675, 676, 677, 678, 679, 680]
set_option maxRecDepth 100000 in
theorem lwg_l : ∀ i : Fin 4, lw_tbl[lwql.getD i.1 0]? = some (Cond.laysStatic RX4 (zTn i.1) "[I") := by decide +kernel
set_option maxRecDepth 100000 in
theorem lwg_r : ∀ i : Fin 15, lw_tbl[lwqr.getD i.1 0]? = some (Cond.stringRef RX4 (zSi.getD i.1 0) (zSt.getD i.1 "")) := by decide +kernel
set_option maxRecDepth 100000 in
theorem lwf_m : Cond.initialized RX4 ∈ lw_tbl ∧ Cond.laysStatic RJ0 "COMPACT_STRINGS" "Z" ∈ lw_tbl ∧ Cond.initialized RJ0 ∈ lw_tbl ∧ Cond.laysStatic RJ3 "SIOOBE_FORMATTER" "Ljava/util/function/BiFunction;" ∈ lw_tbl ∧ Cond.initialized RJ3 ∈ lw_tbl := ⟨List.mem_of_getElem? (i := 107) (by decide +kernel), List.mem_of_getElem? (i := 694) (by decide +kernel), List.mem_of_getElem? (i := 114) (by decide +kernel), List.mem_of_getElem? (i := 710) (by decide +kernel), List.mem_of_getElem? (i := 116) (by decide +kernel)⟩
theorem lwg_e (i : Nat) (hi : i < 4) (j : Nat) (hj : j < (zTv i).length) : (flatC lwG)[(lwpe i).getD j 0]? = some (Cond.eq (.elem (.static RX4 (zTn i) "[I") (.int (Int32.ofNat j))) (.int (Int32.ofInt ((zTv i).getD j 0)))) := by
  rcases (show i = 0 ∨ i = 1 ∨ i = 2 ∨ i = 3 by omega) with rfl | rfl | rfl | rfl
  · exact lwg_e0 ⟨j, hj⟩
  · exact lwg_e1 ⟨j, hj⟩
  · exact lwg_e2 ⟨j, hj⟩
  · exact lwg_e3 ⟨j, hj⟩
theorem lw_stat {b : Nat} {s : State} (hgv : (Jvm.Cond.and given_1 narrow_1).before #[Value.ref b] s = true) (hts : ∀ w ∈ lw_tbl, w.before #[Value.ref b] s = true) : ∃ (tb adK adV : Nat → Nat) (fv : Option Nat), zS0 s.heap.size tb adK adV fv s := by
  have hs : ∀ c ∈ flatC lwG, c.before #[Value.ref b] s = true := flat_of_before _ hgv
  have hA : ∀ a : Nat, a < s.heap.size → ¬ (fun q : Nat => s.heap.size ≤ q) a := fun a ha => Nat.not_le.mpr ha
  have h0 : ∀ i : Nat, ∃ t : Nat, i < 4 → (Term.static RX4 (zTn i) "[I").eval #[Value.ref b] s none [] s = some (.ref t) ∧ va_T .int t (zTv i).length (fun j => .int (Int32.ofInt ((zTv i).getD j 0))) (fun q => s.heap.size ≤ q) s s.heap := by
    intro i
    by_cases hi : i < 4
    · have hl75 : (zTv i).length ≤ 75 := by
        rcases (show i = 0 ∨ i = 1 ∨ i = 2 ∨ i = 3 by omega) with rfl | rfl | rfl | rfl <;> decide
      obtain ⟨t, h1, h2⟩ := va_Tof (f := fun j => .int (Int32.ofInt ((zTv i).getD j 0))) (A := fun q => s.heap.size ≤ q) (N := (zTv i).length) (by omega) (hs _ (List.mem_of_getElem? (lwg_a ⟨i, hi⟩).1)) (va_eqt (hs _ (List.mem_of_getElem? (lwg_a ⟨i, hi⟩).2))) (fun j hj => va_eqt (hs _ (List.mem_of_getElem? (lwg_e i hi j hj)))) hA
      exact ⟨t, fun _ => ⟨h1, h2⟩⟩
    · exact ⟨0, fun h => absurd h hi⟩
  obtain ⟨tb, htb⟩ := Classical.axiomOfChoice h0
  obtain ⟨adK, adV, hS, hE⟩ := vk_Sof (args := #[Value.ref b]) (s := s) (N := 15) (tm := zTm15) (len := zSl) (byt := zSb) (A := fun q => s.heap.size ≤ q) (fun i hi => by
      have : ∀ i : Fin 15, zSl.getD i.1 0 < 2 ^ 31 := by decide
      exact this ⟨i, hi⟩) (fun i hi => hs _ (List.mem_of_getElem? (lwg_s ⟨i, hi⟩).1)) (fun i hi => hs _ (List.mem_of_getElem? (lwg_s ⟨i, hi⟩).2.1)) (fun i hi => hs _ (List.mem_of_getElem? (lwg_s ⟨i, hi⟩).2.2.1)) (fun i hi => hs _ (List.mem_of_getElem? (lwg_s ⟨i, hi⟩).2.2.2))
      (fun i hi j hj => hs _ (List.mem_of_getElem? (lwg_t ⟨i, hi⟩ ⟨j, by
        have : ∀ i : Fin 15, zSl.getD i.1 0 ≤ 5 := by decide
        have := this ⟨i, hi⟩
        simp only at this
        omega⟩ hj)))
      (fun i j hi hj hij => by
        rcases Nat.lt_or_ge i j with h | h
        · exact Or.inl (hs _ (List.mem_of_getElem? (lwg_n ⟨i, hi⟩ ⟨j, hj⟩ h)))
        · exact Or.inr (hs _ (List.mem_of_getElem? (lwg_n ⟨j, hj⟩ ⟨i, hi⟩ (show j < i by omega))))) hA
  obtain ⟨m1, m2, m3, m4, m5⟩ := lwf_m
  have hfv : ∃ fv : Option Nat, (Term.static RJ3 "SIOOBE_FORMATTER" "Ljava/util/function/BiFunction;").eval #[Value.ref b] s none [] s = some (va_rf fv) := by
    have := hs _ lwf_z.2
    cases hv : (Term.static RJ3 "SIOOBE_FORMATTER" "Ljava/util/function/BiFunction;").eval #[Value.ref b] s none [] s with
    | none => simp [Cond.before, Cond.holds, Cond.value, hv] at this
    | some w =>
      cases w with
      | ref a => exact ⟨some a, rfl⟩
      | null => exact ⟨none, rfl⟩
      | _ => simp [Cond.before, Cond.holds, Cond.value, hv] at this
  obtain ⟨fv, hfv⟩ := hfv
  refine ⟨tb, adK, adV, fv, fun i hi => ⟨va_Zof (hts _ (List.mem_of_getElem? (lwg_l ⟨i, hi⟩))) (hts _ m1) (htb i hi).1 hA, (htb i hi).2⟩, hS, fun i hi => vk_R.of (hts _ (List.mem_of_getElem? (lwg_r ⟨i, hi⟩))) (hE i hi), va_Zof (hts _ m2) (hts _ m3) (va_eqi (hs _ lwf_z.1)) hA, va_Zof (hts _ m4) (hts _ m5) hfv hA⟩

