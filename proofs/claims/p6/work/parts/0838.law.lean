/-! all pointers of the Model -/
section KNQ
variable {ζ : zRn} {D : va_G} {cy : Nat → ClassId} {M : List Nat} {Ξ : Nat → Option Nat} {g : Nat → Nat → Int} {H : Heap}
theorem rQ_of (hG : zH ζ zkdm D vwCl cy M Ξ g H) (hN : nmR Ξ) : rQ g := by
  have r1 := (rst (j := 1) (t := 0) (B := 2147483647) hG hN (by decide +kernel) (by decide +kernel)).1
  have r2 := (rst (j := 2) (t := 1) (B := 2147483647) hG hN (by decide +kernel) (by decide +kernel)).1
  have r3 := (rst (j := 3) (t := 2) (B := 2147483647) hG hN (by decide +kernel) (by decide +kernel)).1
  have r4 := (rst (j := 4) (t := 3) (B := 2147483647) hG hN (by decide +kernel) (by decide +kernel)).1
  have r5 := (rst (j := 5) (t := 4) (B := 2147483647) hG hN (by decide +kernel) (by decide +kernel)).1
  have r6 := (rst (j := 6) (t := 5) (B := 2147483647) hG hN (by decide +kernel) (by decide +kernel)).1
  have r7 := (rst (j := 7) (t := 6) (B := 2147483647) hG hN (by decide +kernel) (by decide +kernel)).1
  have r8 := (rst (j := 8) (t := 7) (B := 2147483647) hG hN (by decide +kernel) (by decide +kernel)).1
  have r18 := (rst (j := 18) (t := 8) (B := 2147483647) hG hN (by decide +kernel) (by decide +kernel)).1
  have r19 := (rst (j := 19) (t := 9) (B := 2147483647) hG hN (by decide +kernel) (by decide +kernel)).1
  have r30 := (rst (j := 30) (t := 10) (B := 2147483647) hG hN (by decide +kernel) (by decide +kernel)).1
  have r31 := (rst (j := 31) (t := 11) (B := 2147483647) hG hN (by decide +kernel) (by decide +kernel)).1
  have r32 := (rst (j := 32) (t := 12) (B := 2147483647) hG hN (by decide +kernel) (by decide +kernel)).1
  have r36 := (rst (j := 36) (t := 13) (B := 2147483647) hG hN (by decide +kernel) (by decide +kernel)).1
  have r37 := (rst (j := 37) (t := 14) (B := 2147483647) hG hN (by decide +kernel) (by decide +kernel)).1
  have r38 := (rst (j := 38) (t := 15) (B := 2147483647) hG hN (by decide +kernel) (by decide +kernel)).1
  have r39 := (rst (j := 39) (t := 20) (B := 2147483647) hG hN (by decide +kernel) (by decide +kernel)).1
  have r40 := (rst (j := 40) (t := 19) (B := 2147483647) hG hN (by decide +kernel) (by decide +kernel)).1
  have r41 := (rst (j := 41) (t := 16) (B := 2147483647) hG hN (by decide +kernel) (by decide +kernel)).1
  have r42 := (rst (j := 42) (t := 17) (B := 2147483647) hG hN (by decide +kernel) (by decide +kernel)).1
  have r43 := (rst (j := 43) (t := 18) (B := 2147483647) hG hN (by decide +kernel) (by decide +kernel)).1
  have r44 := (rst (j := 44) (t := 21) (B := 2147483647) hG hN (by decide +kernel) (by decide +kernel)).1
  have r45 := (rst (j := 45) (t := 22) (B := 2147483647) hG hN (by decide +kernel) (by decide +kernel)).1
  have r46 := (rst (j := 46) (t := 23) (B := 2147483647) hG hN (by decide +kernel) (by decide +kernel)).1
  have r47 := (rst (j := 47) (t := 24) (B := 2147483647) hG hN (by decide +kernel) (by decide +kernel)).1
  have r48 := (rst (j := 48) (t := 25) (B := 2147483647) hG hN (by decide +kernel) (by decide +kernel)).1
  have r52 := (rst (j := 52) (t := 27) (B := 2147483647) hG hN (by decide +kernel) (by decide +kernel)).1
  have r53 := (rst (j := 53) (t := 28) (B := 2147483647) hG hN (by decide +kernel) (by decide +kernel)).1
  have r54 := (rst (j := 54) (t := 26) (B := 2147483647) hG hN (by decide +kernel) (by decide +kernel)).1
  have r58 := (rst (j := 58) (t := 29) (B := 2147483647) hG hN (by decide +kernel) (by decide +kernel)).1
  have r59 := (rst (j := 59) (t := 30) (B := 2147483647) hG hN (by decide +kernel) (by decide +kernel)).1
  have r60 := (rst (j := 60) (t := 31) (B := 2147483647) hG hN (by decide +kernel) (by decide +kernel)).1
  have r61 := (rst (j := 61) (t := 32) (B := 2147483647) hG hN (by decide +kernel) (by decide +kernel)).1
  have r62 := (rst (j := 62) (t := 33) (B := 2147483647) hG hN (by decide +kernel) (by decide +kernel)).1
  have r63 := (rst (j := 63) (t := 34) (B := 2147483647) hG hN (by decide +kernel) (by decide +kernel)).1
  intro p hp
  simp only [rQL, List.mem_cons, List.not_mem_nil, or_false] at hp
  rcases hp with rfl | rfl | rfl | rfl | rfl | rfl | rfl | rfl | rfl | rfl | rfl | rfl | rfl | rfl | rfl | rfl | rfl | rfl | rfl | rfl | rfl | rfl | rfl | rfl | rfl | rfl | rfl | rfl | rfl | rfl | rfl | rfl | rfl | rfl | rfl
  · exact r1
  · exact r2
  · exact r3
  · exact r4
  · exact r5
  · exact r6
  · exact r7
  · exact r8
  · exact r18
  · exact r19
  · exact r30
  · exact r31
  · exact r32
  · exact r36
  · exact r37
  · exact r38
  · exact r39
  · exact r40
  · exact r41
  · exact r42
  · exact r43
  · exact r44
  · exact r45
  · exact r46
  · exact r47
  · exact r48
  · exact r52
  · exact r53
  · exact r54
  · exact r58
  · exact r59
  · exact r60
  · exact r61
  · exact r62
  · exact r63
end KNQ
