/-- followed where the seas' contents are -/
def cW (h g : yH) : Prop := cPw h ∧ WH g
theorem cW.p {h g : yH} (w : cW h g) : cPw h := w.1
theorem cW.c {h h2 g : yH} (w : cW h g) (e : cPw h2) : cW h2 g := ⟨e, w.2⟩
theorem cW.r {h g g2 : yH} (w : cW h g) (e : k7 g g2) : cW h g2 := ⟨w.1, w.2.k7 e⟩
/-- what is told alike, and what else is followed -/
def RW (F : Prop) (h g : yH) : Prop := RR F h g ∧ (F → cW h g)
