variable {η : zRn}
/-! token: from its first byte on -/
theorem zyt_129 : Cond.methodLink RX12 129 yX12_in ∈ zTW := zTin 1505 (by decide +kernel) rfl
section HWS
variable {D : va_G} {cy : Nat → ClassId} {L : List Nat} {Θ : Nat → Option Nat} {h : Nat → Nat → Int} {H H0 : Heap} {locs : List Loc}
variable {p : Program} {l : Launch} {e : Env} {R : Room} {s : State} {m : MethodId} {args : Array Value} {below : List Frame} {meth : Method} {c : Code} {Q : State → Prop}
variable {cc : ByteArray} {pc nL : Nat} {ls : Array Slot} {rest : List Value}
theorem hw_in (X : hCx D vwCl cy L p s m args c cc nL (tyW cy) zTW RX12) (hsz : ls.size = nL) (hf : 1 ≤ R.frames) (hlo : 22 ≤ R.locals) (hrest : (rest.map (fun v => v.category)).sum ≤ 8) {idx : Nat} {v lo hi : Int32} (hlk : Cond.methodLink RX12 idx yX12_in ∈ zTW) (hdg : decode cc pc = .ok (.invokestatic idx, 3))
    (w : W p l e R s m args below meth c H locs 0 0 Q (F0 m (pc + 3) ls (.int (if lo ≤ v ∧ v ≤ hi then 1 else 0) :: rest))) : W p l e R s m args below meth c H locs 0 0 Q (F0 m pc ls (.int hi :: .int lo :: .int v :: rest)) := by
  obtain ⟨hexec, hb, hml, hts, hown, hKa, hT, hnd⟩ := X
  refine pc_i (va_runS (n := 3) (As := [.int v, .int lo, .int hi]) (rest := rest) (bytes := cX12_in) (maxL := 3) (ret := some .boolean) ⟨hexec, hb, hml, hown, hts⟩ (zS_in l v lo hi) ⟨callB_of _ hts (z_good0 zwh_X12_in.1.2.1) rfl rfl rfl (hts _ zwh_X12_in.1.1) (hts _ hlk) ⟨zwh_X12_in.1.2.2.1.1, zwh_X12_in.1.2.2.1.2, zwh_X12_in.1.2.2.2⟩ ⟨hf, hlo⟩, hts _ zwh_X12_in.2⟩ ⟨zinB, fun U hU hW => ⟨rfl, trivial⟩⟩ rfl rfl hsz rfl (by simpa using hrest) hdg ⟨Nat.zero_le _, Nat.zero_le _⟩) (fun r hr => ?_)
  rw [hr]
  exact w
/-- nothing has changed but reached, value, word of the reference -/
def zdf (h h' : Nat → Nat → Int) (a : Nat) : Prop := ∀ b j, ¬ (b = a ∧ (j = 9 ∨ j = 13 ∨ j = 14)) → h' b j = h b j
theorem zdf.up {h h' : Nat → Nat → Int} {a k : Nat} {x : Int} (g : zdf h h' a) (hk : k = 9 ∨ k = 13 ∨ k = 14) : zdf h (zup h' a k x) a := by
  intro b j hj
  rw [zup_ne]
  · exact g b j hj
  · rintro ⟨rfl, rfl⟩
    exact hj ⟨rfl, hk⟩
end HWS
