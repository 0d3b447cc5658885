variable {η : zRn}
/-! contracts -/
abbrev zKPt : Type := zRn → va_G → (Nat → ClassId) → List Nat → (Nat → Option Nat) → State → Prop
def zMet (kds : List zKD) (cl : List vw_C) (TW : List Cond) (KP : zKPt) (l : Launch) (C : zCT) : Prop :=
  ∀ (η : zRn) (D : va_G) (cy : Nat → ClassId) (L : List Nat) (Θ : Nat → Option Nat) (h : Nat → Nat → Int) (σ : List Int), L.Nodup → zge σ C.2.2.1.2.1 → (∀ a ∈ C.2.2.1.1, zga Θ σ a) → zgv Θ h σ C.2.2.1.2.2.2.2.1 → zgr σ C.2.2.1.2.2.2.2.2 →
    Met l C.1.1 (Cond.code C.1.1 C.1.2.1 C.1.2.2.1 C.1.2.2.2 :: TW) ({ frames := C.2.1.1, cells := 0, slots := 0, locals := C.2.1.2 } : Room) (va_Pc (C.2.2.1.1.map (zvo η σ)) (fun U => zH η kds D cl cy L Θ h U.heap ∧ KP η D cy L Θ U)) (zQ η kds D cl cy L Θ h σ C.2.2.2.1 C.2.2.2.2) 0 0 (fun q => q ∈ L)
/-- what is asked of the words on the classes -/
def zKPok (cl : List vw_C) (tyf : (Nat → ClassId) → List (ClassId × FieldType)) (KP : zKPt) : Prop :=
  (∀ η D cy L Θ U, KP η D cy L Θ U → va_K D cl (tyf cy) U ∧ zTy cy (tyf cy)) ∧
  (∀ η D cy L Θ (s U : State), KP η D cy L Θ s → s.WarmedH U.vm → s.heap.size ≤ U.heap.size → (∀ q, q < s.heap.size → q ∉ L → U.heap[q]? = s.heap[q]?) → KP η D cy L Θ U) ∧
  (∀ η D cy L Θ (U : State) (g : JFrame) (mk : MethodId) (a : Array Value), KP η D cy L Θ U → KP η D cy L Θ (U.calling g mk a))
def zgoodW (TW : List Cond) : Prop := ∀ w ∈ TW, (w.onTables && w.keeps) = true ∨ ∃ ty, w = .arrayClass ty
/-- a virtual call of a contract's method -/
def zCV (kds : List zKD) (cl : List vw_C) (TW : List Cond) (own : String) (cc : ByteArray) (fr lo pc : Nat) (C : zCT) : Prop :=
  ∃ idx : Nat, decode cc pc = .ok (.invokevirtual idx, 3) ∧ Cond.methodLink own idx C.1.1 ∈ TW ∧ Cond.instanceMethod C.1.1 ∈ TW ∧ Cond.selects C.1.1.cls C.1.1 C.1.1 ∈ TW ∧ Cond.initialized C.1.1.cls ∈ TW ∧ Cond.code C.1.1 C.1.2.1 C.1.2.2.1 C.1.2.2.2 ∈ TW ∧ (C.1.1.cls ≠ "java/lang/invoke/MethodHandle" ∧ C.1.1.cls ≠ "java/lang/invoke/VarHandle") ∧
    (parseMethodDescriptor C.1.1.desc).map (fun d => d.parameters.length) = some (C.2.2.1.1.length - 1) ∧ C.2.1.1 + 1 ≤ fr ∧ 8 + (C.1.2.2.1 + 11) + C.2.1.2 ≤ lo ∧
    ∃ (r : zAV) (ea : List zAV) (K : zKD) (T : u_T) (N : Nat), C.2.2.1.1 = r :: ea ∧ 2 ≤ r.1 ∧ znn C.2.2.1.2.1 r = true ∧ kds[r.1 - 2]? = some K ∧ K.1 = 0 ∧ cl[K.2.1]? = some (C.1.1.cls, T, N)
def zCS (TW : List Cond) (own : String) (cc : ByteArray) (fr lo pc : Nat) (C : zCT) : Prop :=
  ∃ idx : Nat, decode cc pc = .ok (.invokestatic idx, 3) ∧ Cond.methodLink own idx C.1.1 ∈ TW ∧ Cond.static C.1.1 ∈ TW ∧ Cond.initialized C.1.1.cls ∈ TW ∧ Cond.code C.1.1 C.1.2.1 C.1.2.2.1 C.1.2.2.2 ∈ TW ∧ (C.1.1.cls ≠ "java/lang/invoke/MethodHandle" ∧ C.1.1.cls ≠ "java/lang/invoke/VarHandle") ∧
    (parseMethodDescriptor C.1.1.desc).map (fun d => d.parameters.length) = some C.2.2.1.1.length ∧ C.2.1.1 + 1 ≤ fr ∧ 8 + (C.1.2.2.1 + 11) + C.2.1.2 ≤ lo
section ZME
variable {kds : List zKD} {D : va_G} {cl : List vw_C} {cy : Nat → ClassId} {L : List Nat} {Θ : Nat → Option Nat} {nL : Nat}
variable {p : Program} {l : Launch} {e : Env} {R : Room} {s : State} {m : MethodId} {args : Array Value} {below : List Frame} {meth : Method} {c : Code}
variable {cc : ByteArray} {pc : Nat} {TW Ts : List Cond} {own : String} {KP : zKPt} {tyf : (Nat → ClassId) → List (ClassId × FieldType)}
theorem z_blind (hKP : zKPok cl tyf KP) {h : Nat → Nat → Int} {av : List Value} : FrameBlind (va_Pc av (fun U => zH η kds D cl cy L Θ h U.heap ∧ KP η D cy L Θ U)) := fun _ U g mk q => ⟨q.1, q.2.1, hKP.2.2 _ _ _ _ _ U g mk _ q.2.2⟩
theorem z_good (hg : zgoodW TW) {w0 w1 : Cond} (h1 : w1 ∈ TW) : GoodIn (w0 :: TW) (w1 :: TW) := by
  intro w hw
  rcases List.mem_cons.mp hw with rfl | hw
  · exact ⟨List.mem_cons_of_mem _ h1, hg _ h1⟩
  · exact ⟨List.mem_cons_of_mem _ hw, hg _ hw⟩
theorem z_runV (hKP : zKPok cl tyf KP) (hg : zgoodW TW) {w0 : Cond} (hTs : Ts = w0 :: TW) {C : zCT} (hM : zMet kds cl TW KP l C) (hnd : L.Nodup) (S : CallFix p m c cc nL s args Ts own) (hK : KP η D cy L Θ s) (hC : zCV kds cl TW own cc R.frames R.locals pc C) :
    zHrun η kds D cl cy L Θ (fun q => q ∈ L) s.heap nL p l e R s m args below meth c pc C := by
  intro σc h H locs ls rest hE hA hV hR hH hS hsz hcat
  obtain ⟨idx, hd, m1, m2, m3, m4, m5, m6, m7, m8, m9, r, ea, K, T, N, ee, er, en, eK, eK0, eC⟩ := hC
  have hts : ∀ w ∈ TW, w.before args s = true := fun w hw => S.2.2.2.2 w (by rw [hTs]; exact List.mem_cons_of_mem _ hw)
  have hr : zga Θ σc r := hA r (by rw [ee]; exact List.mem_cons_self)
  obtain ⟨ea1, na, Θa⟩ := z_nnr en hE hr (z_sub2 er)
  obtain ⟨q0, hq⟩ := zH_get hH Θa eK (by omega)
  rw [zE_o eK0] at hq
  have hKa := (hKP.1 _ _ _ _ _ _ hK).1
  have hrec := va_recv hKa hH.1 eC hq
  have hMM := hM η D cy L Θ h σc hnd hE hA hV hR
  have hmap : C.2.2.1.1.map (zvo η σc) = .ref (η.1 (σc.getD r.2.1 0).toNat) :: ea.map (zvo η σc) := by rw [ee, List.map_cons, ea1]
  rw [hmap] at hMM ⊢
  refine va_runV (C := C.1.1.cls) (n := C.2.2.1.1.length - 1) (As := ea.map (zvo η σc)) (bytes := C.1.2.1) (maxL := C.1.2.2.1) (ret := C.1.2.2.2) S hMM ⟨callB_of _ S.2.2.2.2 (by rw [hTs]; exact z_good hg m5) rfl rfl rfl (hts _ m4) (hts _ m1) ⟨m6.1, m6.2, m7⟩ ⟨m8, m9⟩, hts _ m2, hts _ m3⟩ ⟨z_blind hKP, hrec, fun U hU hW => ⟨rfl, by rw [hU]; exact hH, ?_⟩⟩ rfl (by rw [ee]; simp) hsz (by simp) (by simpa using hcat) hd ⟨Nat.zero_le _, Nat.zero_le _⟩
  exact hKP.2.1 _ _ _ _ _ s U hK hW (by rw [hU]; exact hS.1) (fun q h1 h2 => by rw [hU]; exact hS.2.1 q h1 h2)
theorem z_runS (hKP : zKPok cl tyf KP) (hg : zgoodW TW) {w0 : Cond} (hTs : Ts = w0 :: TW) {C : zCT} (hM : zMet kds cl TW KP l C) (hnd : L.Nodup) (S : CallFix p m c cc nL s args Ts own) (hK : KP η D cy L Θ s) (hC : zCS TW own cc R.frames R.locals pc C) :
    zHrun η kds D cl cy L Θ (fun q => q ∈ L) s.heap nL p l e R s m args below meth c pc C := by
  intro σc h H locs ls rest hE hA hV hR hH hS hsz hcat
  obtain ⟨idx, hd, m1, m2, m4, m5, m6, m7, m8, m9⟩ := hC
  have hts : ∀ w ∈ TW, w.before args s = true := fun w hw => S.2.2.2.2 w (by rw [hTs]; exact List.mem_cons_of_mem _ hw)
  have hMM := hM η D cy L Θ h σc hnd hE hA hV hR
  refine va_runS (n := C.2.2.1.1.length) (As := C.2.2.1.1.map (zvo η σc)) (bytes := C.1.2.1) (maxL := C.1.2.2.1) (ret := C.1.2.2.2) S hMM ⟨callB_of _ S.2.2.2.2 (by rw [hTs]; exact z_good hg m5) rfl rfl rfl (hts _ m4) (hts _ m1) ⟨m6.1, m6.2, m7⟩ ⟨m8, m9⟩, hts _ m2⟩ ⟨z_blind hKP, fun U hU hW => ⟨rfl, by rw [hU]; exact hH, ?_⟩⟩ rfl (by simp) hsz rfl (by simpa using hcat) hd ⟨Nat.zero_le _, Nat.zero_le _⟩
  exact hKP.2.1 _ _ _ _ _ s U hK hW (by rw [hU]; exact hS.1) (fun q h1 h2 => by rw [hU]; exact hS.2.1 q h1 h2)
end ZME
/-- the places of a method's values among its locals -/
def zargs : Nat → List zAV → List (Nat × zAV)
  | _, [] => []
  | i, a :: r => (i, a) :: zargs (i + if a.1 = 1 then 2 else 1) r
def zwid : List zAV → Nat
  | [] => 0
  | a :: r => (if a.1 = 1 then 2 else 1) + zwid r
