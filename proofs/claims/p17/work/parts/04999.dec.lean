section
/-! decode rows of long codes by slices of them -/
theorem dcU {s : ByteArray} {q : Nat} (h : q < s.size) : (Reader.u1 : Reader DecodeError Nat) s q = .ok (s[q].toNat, q + 1) := by
  show (if h : q < s.size then (do set (q + 1); pure s[q].toNat : Reader DecodeError Nat) else throw (HasTruncated.truncated q)) s q = _
  rw [dif_pos h]; rfl
theorem dcB {α β : Type} {m : Reader DecodeError α} {f : α → Reader DecodeError β} {s : ByteArray} {q n : Nat} {a : α} (h : m s q = .ok (a, n)) :
    (m >>= f) s q = f a s n := by
  show (m s q >>= fun (x : α × Nat) => f x.1 s x.2) = _
  rw [h]; rfl
theorem dcM {α β : Type} {m : Reader DecodeError α} {g : α → β} {s : ByteArray} {q n : Nat} {a : α} (h : m s q = .ok (a, n)) :
    (g <$> m) s q = .ok (g a, n) := by
  show (m s q >>= fun (x : α × Nat) => (pure (g x.1, x.2) : Except DecodeError (β × Nat))) = _
  rw [h]; rfl
theorem dcU2 {s : ByteArray} {q : Nat} (h : q + 1 < s.size) : (Reader.u2 : Reader DecodeError Nat) s q = .ok (s[q].toNat * 256 + s[q + 1].toNat, q + 2) :=
  (dcB (dcU (Nat.lt_of_succ_lt h))).trans ((dcB (dcU h)).trans rfl)
theorem dcN {c : ByteArray} {p k : Nat} {v : Instr} (h1 : Decoder.instr p c p = .ok (v, p + 1 + k)) : decode c p = .ok (v, 1 + k) := by
  show ((Decoder.instr p c p) >>= fun (x : Instr × Nat) => (pure (x.1, x.2 - p) : Except DecodeError (Instr × Nat))) = _
  rw [h1]
  show (Except.ok (v, p + 1 + k - p) : Except DecodeError (Instr × Nat)) = _
  rw [show p + 1 + k - p = 1 + k by omega]
theorem dcO {α : Type} {c : ByteArray} {p b k : Nat} {v : α} {m : Reader DecodeError α} {g : α → Instr} {F : Nat → Decoder Instr} (hF : Decoder.instr p = (Reader.u1 >>= F))
    (he : F b = (m >>= fun a => pure (g a))) (hp : p < c.size) (hb : c[p].toNat = b) (hm : m c (p + 1) = .ok (v, p + 1 + k)) : decode c p = .ok (g v, 1 + k) := by
  apply dcN
  rw [hF, dcB (dcU hp), hb, he, dcB hm]; rfl
theorem dcO2 {α β : Type} {c : ByteArray} {p b k n : Nat} {v : α} {u : β} {m : Reader DecodeError α} {q : Reader DecodeError β} {g : α → β → Instr} {F : Nat → Decoder Instr} (hF : Decoder.instr p = (Reader.u1 >>= F))
    (he : F b = (m >>= fun a => q >>= fun d => pure (g a d))) (hp : p < c.size) (hb : c[p].toNat = b) (hm : m c (p + 1) = .ok (v, n)) (hq : q c n = .ok (u, p + 1 + k)) : decode c p = .ok (g v u, 1 + k) := by
  apply dcN
  rw [hF, dcB (dcU hp), hb, he, dcB hm, dcB hq]; rfl
theorem dcF_0 (p : Nat) : ∃ F : Nat → Decoder Instr, Decoder.instr p = (Reader.u1 >>= F)
    ∧ F 2 = ((pure () : Decoder Unit) >>= fun _ => pure (.iconst (-1)))
    ∧ F 3 = ((pure () : Decoder Unit) >>= fun _ => pure (.iconst 0))
    ∧ F 4 = ((pure () : Decoder Unit) >>= fun _ => pure (.iconst 1))
    ∧ F 5 = ((pure () : Decoder Unit) >>= fun _ => pure (.iconst 2))
    ∧ F 6 = ((pure () : Decoder Unit) >>= fun _ => pure (.iconst 3))
    ∧ F 7 = ((pure () : Decoder Unit) >>= fun _ => pure (.iconst 4))
    ∧ F 8 = ((pure () : Decoder Unit) >>= fun _ => pure (.iconst 5))
    ∧ F 9 = ((pure () : Decoder Unit) >>= fun _ => pure (.lconst 0))
    ∧ F 16 = (Reader.s1 >>= fun a => pure (.bipush a))
    ∧ F 17 = (Reader.s2 >>= fun a => pure (.sipush a))
    ∧ F 18 = (Reader.u1 >>= fun a => pure (.ldc a))
    ∧ F 20 = (Reader.u2 >>= fun a => pure (.ldc2_w a))
    ∧ F 21 = (Reader.u1 >>= fun a => pure (.iload a))
    ∧ F 22 = (Reader.u1 >>= fun a => pure (.lload a))
    ∧ F 25 = (Reader.u1 >>= fun a => pure (.aload a))
    ∧ F 26 = ((pure () : Decoder Unit) >>= fun _ => pure (.iload_n 0))
    ∧ F 27 = ((pure () : Decoder Unit) >>= fun _ => pure (.iload_n 1))
    ∧ F 28 = ((pure () : Decoder Unit) >>= fun _ => pure (.iload_n 2))
    ∧ F 29 = ((pure () : Decoder Unit) >>= fun _ => pure (.iload_n 3))
    ∧ F 31 = ((pure () : Decoder Unit) >>= fun _ => pure (.lload_n 1))
    ∧ F 42 = ((pure () : Decoder Unit) >>= fun _ => pure (.aload_n 0))
    ∧ F 43 = ((pure () : Decoder Unit) >>= fun _ => pure (.aload_n 1))
    ∧ F 44 = ((pure () : Decoder Unit) >>= fun _ => pure (.aload_n 2))
    ∧ F 45 = ((pure () : Decoder Unit) >>= fun _ => pure (.aload_n 3)) :=
  ⟨_, rfl, rfl, rfl, rfl, rfl, rfl, rfl, rfl, rfl, rfl, rfl, rfl, rfl, rfl, rfl, rfl, rfl, rfl, rfl, rfl, rfl, rfl, rfl, rfl, rfl⟩
def dcT_0 (x y z : Nat) : Option (Instr × Nat) :=
  match x with
  | 2 => some (.iconst (-1), 1)
  | 3 => some (.iconst 0, 1)
  | 4 => some (.iconst 1, 1)
  | 5 => some (.iconst 2, 1)
  | 6 => some (.iconst 3, 1)
  | 7 => some (.iconst 4, 1)
  | 8 => some (.iconst 5, 1)
  | 9 => some (.lconst 0, 1)
  | 16 => some (.bipush (Reader.signed 8 y), 2)
  | 17 => some (.sipush (Reader.signed 16 (y * 256 + z)), 3)
  | 18 => some (.ldc y, 2)
  | 20 => some (.ldc2_w (y * 256 + z), 3)
  | 21 => some (.iload y, 2)
  | 22 => some (.lload y, 2)
  | 25 => some (.aload y, 2)
  | 26 => some (.iload_n 0, 1)
  | 27 => some (.iload_n 1, 1)
  | 28 => some (.iload_n 2, 1)
  | 29 => some (.iload_n 3, 1)
  | 31 => some (.lload_n 1, 1)
  | 42 => some (.aload_n 0, 1)
  | 43 => some (.aload_n 1, 1)
  | 44 => some (.aload_n 2, 1)
  | 45 => some (.aload_n 3, 1)
  | _ => none
theorem dcT_ok_0 {c : ByteArray} {p : Nat} {r : Instr × Nat} (h : p + 2 < c.size) (e : dcT_0 c[p].toNat c[p + 1].toNat c[p + 2].toNat = some r) : decode c p = .ok r := by
  obtain ⟨F, hF, f2, f3, f4, f5, f6, f7, f8, f9, f16, f17, f18, f20, f21, f22, f25, f26, f27, f28, f29, f31, f42, f43, f44, f45⟩ := dcF_0 p
  have h0 : p < c.size := by omega
  have h1 : p + 1 < c.size := by omega
  have u1 : (Reader.u1 : Reader DecodeError Nat) c (p + 1) = .ok (c[p + 1].toNat, p + 1 + 1) := dcU h1
  have u3 : (Reader.u1 : Reader DecodeError Nat) c (p + 1 + 1) = .ok (c[p + 2].toNat, p + 1 + 2) := dcU h
  have u2 : (Reader.u2 : Reader DecodeError Nat) c (p + 1) = .ok (c[p + 1].toNat * 256 + c[p + 2].toNat, p + 1 + 2) := dcU2 h
  unfold dcT_0 at e
  split at e
  · rename_i hb; cases e; exact dcO (k := 0) (m := (pure () : Decoder Unit)) (g := fun _ => .iconst (-1)) (v := ()) hF f2 h0 hb rfl
  · rename_i hb; cases e; exact dcO (k := 0) (m := (pure () : Decoder Unit)) (g := fun _ => .iconst 0) (v := ()) hF f3 h0 hb rfl
  · rename_i hb; cases e; exact dcO (k := 0) (m := (pure () : Decoder Unit)) (g := fun _ => .iconst 1) (v := ()) hF f4 h0 hb rfl
  · rename_i hb; cases e; exact dcO (k := 0) (m := (pure () : Decoder Unit)) (g := fun _ => .iconst 2) (v := ()) hF f5 h0 hb rfl
  · rename_i hb; cases e; exact dcO (k := 0) (m := (pure () : Decoder Unit)) (g := fun _ => .iconst 3) (v := ()) hF f6 h0 hb rfl
  · rename_i hb; cases e; exact dcO (k := 0) (m := (pure () : Decoder Unit)) (g := fun _ => .iconst 4) (v := ()) hF f7 h0 hb rfl
  · rename_i hb; cases e; exact dcO (k := 0) (m := (pure () : Decoder Unit)) (g := fun _ => .iconst 5) (v := ()) hF f8 h0 hb rfl
  · rename_i hb; cases e; exact dcO (k := 0) (m := (pure () : Decoder Unit)) (g := fun _ => .lconst 0) (v := ()) hF f9 h0 hb rfl
  · rename_i hb; cases e; exact dcO (k := 1) (m := Reader.s1) (g := fun a => .bipush a) (v := Reader.signed 8 c[p + 1].toNat) hF f16 h0 hb (dcM u1)
  · rename_i hb; cases e; exact dcO (k := 2) (m := Reader.s2) (g := fun a => .sipush a) (v := Reader.signed 16 (c[p + 1].toNat * 256 + c[p + 2].toNat)) hF f17 h0 hb (dcM u2)
  · rename_i hb; cases e; exact dcO (k := 1) (m := Reader.u1) (g := fun a => .ldc a) (v := c[p + 1].toNat) hF f18 h0 hb u1
  · rename_i hb; cases e; exact dcO (k := 2) (m := Reader.u2) (g := fun a => .ldc2_w a) (v := c[p + 1].toNat * 256 + c[p + 2].toNat) hF f20 h0 hb u2
  · rename_i hb; cases e; exact dcO (k := 1) (m := Reader.u1) (g := fun a => .iload a) (v := c[p + 1].toNat) hF f21 h0 hb u1
  · rename_i hb; cases e; exact dcO (k := 1) (m := Reader.u1) (g := fun a => .lload a) (v := c[p + 1].toNat) hF f22 h0 hb u1
  · rename_i hb; cases e; exact dcO (k := 1) (m := Reader.u1) (g := fun a => .aload a) (v := c[p + 1].toNat) hF f25 h0 hb u1
  · rename_i hb; cases e; exact dcO (k := 0) (m := (pure () : Decoder Unit)) (g := fun _ => .iload_n 0) (v := ()) hF f26 h0 hb rfl
  · rename_i hb; cases e; exact dcO (k := 0) (m := (pure () : Decoder Unit)) (g := fun _ => .iload_n 1) (v := ()) hF f27 h0 hb rfl
  · rename_i hb; cases e; exact dcO (k := 0) (m := (pure () : Decoder Unit)) (g := fun _ => .iload_n 2) (v := ()) hF f28 h0 hb rfl
  · rename_i hb; cases e; exact dcO (k := 0) (m := (pure () : Decoder Unit)) (g := fun _ => .iload_n 3) (v := ()) hF f29 h0 hb rfl
  · rename_i hb; cases e; exact dcO (k := 0) (m := (pure () : Decoder Unit)) (g := fun _ => .lload_n 1) (v := ()) hF f31 h0 hb rfl
  · rename_i hb; cases e; exact dcO (k := 0) (m := (pure () : Decoder Unit)) (g := fun _ => .aload_n 0) (v := ()) hF f42 h0 hb rfl
  · rename_i hb; cases e; exact dcO (k := 0) (m := (pure () : Decoder Unit)) (g := fun _ => .aload_n 1) (v := ()) hF f43 h0 hb rfl
  · rename_i hb; cases e; exact dcO (k := 0) (m := (pure () : Decoder Unit)) (g := fun _ => .aload_n 2) (v := ()) hF f44 h0 hb rfl
  · rename_i hb; cases e; exact dcO (k := 0) (m := (pure () : Decoder Unit)) (g := fun _ => .aload_n 3) (v := ()) hF f45 h0 hb rfl
  · cases e
theorem dcF_1 (p : Nat) : ∃ F : Nat → Decoder Instr, Decoder.instr p = (Reader.u1 >>= F)
    ∧ F 46 = ((pure () : Decoder Unit) >>= fun _ => pure (.iaload))
    ∧ F 50 = ((pure () : Decoder Unit) >>= fun _ => pure (.aaload))
    ∧ F 51 = ((pure () : Decoder Unit) >>= fun _ => pure (.baload))
    ∧ F 54 = (Reader.u1 >>= fun a => pure (.istore a))
    ∧ F 55 = (Reader.u1 >>= fun a => pure (.lstore a))
    ∧ F 58 = (Reader.u1 >>= fun a => pure (.astore a))
    ∧ F 60 = ((pure () : Decoder Unit) >>= fun _ => pure (.istore_n 1))
    ∧ F 61 = ((pure () : Decoder Unit) >>= fun _ => pure (.istore_n 2))
    ∧ F 62 = ((pure () : Decoder Unit) >>= fun _ => pure (.istore_n 3))
    ∧ F 76 = ((pure () : Decoder Unit) >>= fun _ => pure (.astore_n 1))
    ∧ F 77 = ((pure () : Decoder Unit) >>= fun _ => pure (.astore_n 2))
    ∧ F 78 = ((pure () : Decoder Unit) >>= fun _ => pure (.astore_n 3))
    ∧ F 79 = ((pure () : Decoder Unit) >>= fun _ => pure (.iastore))
    ∧ F 83 = ((pure () : Decoder Unit) >>= fun _ => pure (.aastore))
    ∧ F 84 = ((pure () : Decoder Unit) >>= fun _ => pure (.bastore))
    ∧ F 87 = ((pure () : Decoder Unit) >>= fun _ => pure (.pop))
    ∧ F 89 = ((pure () : Decoder Unit) >>= fun _ => pure (.dup))
    ∧ F 92 = ((pure () : Decoder Unit) >>= fun _ => pure (.dup2))
    ∧ F 96 = ((pure () : Decoder Unit) >>= fun _ => pure (.iadd))
    ∧ F 100 = ((pure () : Decoder Unit) >>= fun _ => pure (.isub))
    ∧ F 104 = ((pure () : Decoder Unit) >>= fun _ => pure (.imul))
    ∧ F 108 = ((pure () : Decoder Unit) >>= fun _ => pure (.idiv))
    ∧ F 112 = ((pure () : Decoder Unit) >>= fun _ => pure (.irem))
    ∧ F 116 = ((pure () : Decoder Unit) >>= fun _ => pure (.ineg)) :=
  ⟨_, rfl, rfl, rfl, rfl, rfl, rfl, rfl, rfl, rfl, rfl, rfl, rfl, rfl, rfl, rfl, rfl, rfl, rfl, rfl, rfl, rfl, rfl, rfl, rfl, rfl⟩
def dcT_1 (x y z : Nat) : Option (Instr × Nat) :=
  match x with
  | 46 => some (.iaload, 1)
  | 50 => some (.aaload, 1)
  | 51 => some (.baload, 1)
  | 54 => some (.istore y, 2)
  | 55 => some (.lstore y, 2)
  | 58 => some (.astore y, 2)
  | 60 => some (.istore_n 1, 1)
  | 61 => some (.istore_n 2, 1)
  | 62 => some (.istore_n 3, 1)
  | 76 => some (.astore_n 1, 1)
  | 77 => some (.astore_n 2, 1)
  | 78 => some (.astore_n 3, 1)
  | 79 => some (.iastore, 1)
  | 83 => some (.aastore, 1)
  | 84 => some (.bastore, 1)
  | 87 => some (.pop, 1)
  | 89 => some (.dup, 1)
  | 92 => some (.dup2, 1)
  | 96 => some (.iadd, 1)
  | 100 => some (.isub, 1)
  | 104 => some (.imul, 1)
  | 108 => some (.idiv, 1)
  | 112 => some (.irem, 1)
  | 116 => some (.ineg, 1)
  | _ => none
theorem dcT_ok_1 {c : ByteArray} {p : Nat} {r : Instr × Nat} (h : p + 2 < c.size) (e : dcT_1 c[p].toNat c[p + 1].toNat c[p + 2].toNat = some r) : decode c p = .ok r := by
  obtain ⟨F, hF, f46, f50, f51, f54, f55, f58, f60, f61, f62, f76, f77, f78, f79, f83, f84, f87, f89, f92, f96, f100, f104, f108, f112, f116⟩ := dcF_1 p
  have h0 : p < c.size := by omega
  have h1 : p + 1 < c.size := by omega
  have u1 : (Reader.u1 : Reader DecodeError Nat) c (p + 1) = .ok (c[p + 1].toNat, p + 1 + 1) := dcU h1
  have u3 : (Reader.u1 : Reader DecodeError Nat) c (p + 1 + 1) = .ok (c[p + 2].toNat, p + 1 + 2) := dcU h
  have u2 : (Reader.u2 : Reader DecodeError Nat) c (p + 1) = .ok (c[p + 1].toNat * 256 + c[p + 2].toNat, p + 1 + 2) := dcU2 h
  unfold dcT_1 at e
  split at e
  · rename_i hb; cases e; exact dcO (k := 0) (m := (pure () : Decoder Unit)) (g := fun _ => .iaload) (v := ()) hF f46 h0 hb rfl
  · rename_i hb; cases e; exact dcO (k := 0) (m := (pure () : Decoder Unit)) (g := fun _ => .aaload) (v := ()) hF f50 h0 hb rfl
  · rename_i hb; cases e; exact dcO (k := 0) (m := (pure () : Decoder Unit)) (g := fun _ => .baload) (v := ()) hF f51 h0 hb rfl
  · rename_i hb; cases e; exact dcO (k := 1) (m := Reader.u1) (g := fun a => .istore a) (v := c[p + 1].toNat) hF f54 h0 hb u1
  · rename_i hb; cases e; exact dcO (k := 1) (m := Reader.u1) (g := fun a => .lstore a) (v := c[p + 1].toNat) hF f55 h0 hb u1
  · rename_i hb; cases e; exact dcO (k := 1) (m := Reader.u1) (g := fun a => .astore a) (v := c[p + 1].toNat) hF f58 h0 hb u1
  · rename_i hb; cases e; exact dcO (k := 0) (m := (pure () : Decoder Unit)) (g := fun _ => .istore_n 1) (v := ()) hF f60 h0 hb rfl
  · rename_i hb; cases e; exact dcO (k := 0) (m := (pure () : Decoder Unit)) (g := fun _ => .istore_n 2) (v := ()) hF f61 h0 hb rfl
  · rename_i hb; cases e; exact dcO (k := 0) (m := (pure () : Decoder Unit)) (g := fun _ => .istore_n 3) (v := ()) hF f62 h0 hb rfl
  · rename_i hb; cases e; exact dcO (k := 0) (m := (pure () : Decoder Unit)) (g := fun _ => .astore_n 1) (v := ()) hF f76 h0 hb rfl
  · rename_i hb; cases e; exact dcO (k := 0) (m := (pure () : Decoder Unit)) (g := fun _ => .astore_n 2) (v := ()) hF f77 h0 hb rfl
  · rename_i hb; cases e; exact dcO (k := 0) (m := (pure () : Decoder Unit)) (g := fun _ => .astore_n 3) (v := ()) hF f78 h0 hb rfl
  · rename_i hb; cases e; exact dcO (k := 0) (m := (pure () : Decoder Unit)) (g := fun _ => .iastore) (v := ()) hF f79 h0 hb rfl
  · rename_i hb; cases e; exact dcO (k := 0) (m := (pure () : Decoder Unit)) (g := fun _ => .aastore) (v := ()) hF f83 h0 hb rfl
  · rename_i hb; cases e; exact dcO (k := 0) (m := (pure () : Decoder Unit)) (g := fun _ => .bastore) (v := ()) hF f84 h0 hb rfl
  · rename_i hb; cases e; exact dcO (k := 0) (m := (pure () : Decoder Unit)) (g := fun _ => .pop) (v := ()) hF f87 h0 hb rfl
  · rename_i hb; cases e; exact dcO (k := 0) (m := (pure () : Decoder Unit)) (g := fun _ => .dup) (v := ()) hF f89 h0 hb rfl
  · rename_i hb; cases e; exact dcO (k := 0) (m := (pure () : Decoder Unit)) (g := fun _ => .dup2) (v := ()) hF f92 h0 hb rfl
  · rename_i hb; cases e; exact dcO (k := 0) (m := (pure () : Decoder Unit)) (g := fun _ => .iadd) (v := ()) hF f96 h0 hb rfl
  · rename_i hb; cases e; exact dcO (k := 0) (m := (pure () : Decoder Unit)) (g := fun _ => .isub) (v := ()) hF f100 h0 hb rfl
  · rename_i hb; cases e; exact dcO (k := 0) (m := (pure () : Decoder Unit)) (g := fun _ => .imul) (v := ()) hF f104 h0 hb rfl
  · rename_i hb; cases e; exact dcO (k := 0) (m := (pure () : Decoder Unit)) (g := fun _ => .idiv) (v := ()) hF f108 h0 hb rfl
  · rename_i hb; cases e; exact dcO (k := 0) (m := (pure () : Decoder Unit)) (g := fun _ => .irem) (v := ()) hF f112 h0 hb rfl
  · rename_i hb; cases e; exact dcO (k := 0) (m := (pure () : Decoder Unit)) (g := fun _ => .ineg) (v := ()) hF f116 h0 hb rfl
  · cases e
theorem dcF_2 (p : Nat) : ∃ F : Nat → Decoder Instr, Decoder.instr p = (Reader.u1 >>= F)
    ∧ F 120 = ((pure () : Decoder Unit) >>= fun _ => pure (.ishl))
    ∧ F 121 = ((pure () : Decoder Unit) >>= fun _ => pure (.lshl))
    ∧ F 122 = ((pure () : Decoder Unit) >>= fun _ => pure (.ishr))
    ∧ F 126 = ((pure () : Decoder Unit) >>= fun _ => pure (.iand))
    ∧ F 128 = ((pure () : Decoder Unit) >>= fun _ => pure (.ior))
    ∧ F 129 = ((pure () : Decoder Unit) >>= fun _ => pure (.lor))
    ∧ F 130 = ((pure () : Decoder Unit) >>= fun _ => pure (.ixor))
    ∧ F 132 = (Reader.u1 >>= fun a => Reader.s1 >>= fun d => pure (.iinc a d))
    ∧ F 133 = ((pure () : Decoder Unit) >>= fun _ => pure (.i2l))
    ∧ F 148 = ((pure () : Decoder Unit) >>= fun _ => pure (.lcmp))
    ∧ F 153 = (Reader.s2 >>= fun a => pure (.ifCond .eq a))
    ∧ F 154 = (Reader.s2 >>= fun a => pure (.ifCond .ne a))
    ∧ F 155 = (Reader.s2 >>= fun a => pure (.ifCond .lt a))
    ∧ F 156 = (Reader.s2 >>= fun a => pure (.ifCond .ge a))
    ∧ F 158 = (Reader.s2 >>= fun a => pure (.ifCond .le a))
    ∧ F 159 = (Reader.s2 >>= fun a => pure (.if_icmp .eq a))
    ∧ F 160 = (Reader.s2 >>= fun a => pure (.if_icmp .ne a))
    ∧ F 161 = (Reader.s2 >>= fun a => pure (.if_icmp .lt a))
    ∧ F 162 = (Reader.s2 >>= fun a => pure (.if_icmp .ge a))
    ∧ F 163 = (Reader.s2 >>= fun a => pure (.if_icmp .gt a))
    ∧ F 164 = (Reader.s2 >>= fun a => pure (.if_icmp .le a))
    ∧ F 167 = (Reader.s2 >>= fun a => pure (.goto a))
    ∧ F 172 = ((pure () : Decoder Unit) >>= fun _ => pure (.ireturn))
    ∧ F 176 = ((pure () : Decoder Unit) >>= fun _ => pure (.areturn)) :=
  ⟨_, rfl, rfl, rfl, rfl, rfl, rfl, rfl, rfl, rfl, rfl, rfl, rfl, rfl, rfl, rfl, rfl, rfl, rfl, rfl, rfl, rfl, rfl, rfl, rfl, rfl⟩
def dcT_2 (x y z : Nat) : Option (Instr × Nat) :=
  match x with
  | 120 => some (.ishl, 1)
  | 121 => some (.lshl, 1)
  | 122 => some (.ishr, 1)
  | 126 => some (.iand, 1)
  | 128 => some (.ior, 1)
  | 129 => some (.lor, 1)
  | 130 => some (.ixor, 1)
  | 132 => some (.iinc y (Reader.signed 8 z), 3)
  | 133 => some (.i2l, 1)
  | 148 => some (.lcmp, 1)
  | 153 => some (.ifCond .eq (Reader.signed 16 (y * 256 + z)), 3)
  | 154 => some (.ifCond .ne (Reader.signed 16 (y * 256 + z)), 3)
  | 155 => some (.ifCond .lt (Reader.signed 16 (y * 256 + z)), 3)
  | 156 => some (.ifCond .ge (Reader.signed 16 (y * 256 + z)), 3)
  | 158 => some (.ifCond .le (Reader.signed 16 (y * 256 + z)), 3)
  | 159 => some (.if_icmp .eq (Reader.signed 16 (y * 256 + z)), 3)
  | 160 => some (.if_icmp .ne (Reader.signed 16 (y * 256 + z)), 3)
  | 161 => some (.if_icmp .lt (Reader.signed 16 (y * 256 + z)), 3)
  | 162 => some (.if_icmp .ge (Reader.signed 16 (y * 256 + z)), 3)
  | 163 => some (.if_icmp .gt (Reader.signed 16 (y * 256 + z)), 3)
  | 164 => some (.if_icmp .le (Reader.signed 16 (y * 256 + z)), 3)
  | 167 => some (.goto (Reader.signed 16 (y * 256 + z)), 3)
  | 172 => some (.ireturn, 1)
  | 176 => some (.areturn, 1)
  | _ => none
theorem dcT_ok_2 {c : ByteArray} {p : Nat} {r : Instr × Nat} (h : p + 2 < c.size) (e : dcT_2 c[p].toNat c[p + 1].toNat c[p + 2].toNat = some r) : decode c p = .ok r := by
  obtain ⟨F, hF, f120, f121, f122, f126, f128, f129, f130, f132, f133, f148, f153, f154, f155, f156, f158, f159, f160, f161, f162, f163, f164, f167, f172, f176⟩ := dcF_2 p
  have h0 : p < c.size := by omega
  have h1 : p + 1 < c.size := by omega
  have u1 : (Reader.u1 : Reader DecodeError Nat) c (p + 1) = .ok (c[p + 1].toNat, p + 1 + 1) := dcU h1
  have u3 : (Reader.u1 : Reader DecodeError Nat) c (p + 1 + 1) = .ok (c[p + 2].toNat, p + 1 + 2) := dcU h
  have u2 : (Reader.u2 : Reader DecodeError Nat) c (p + 1) = .ok (c[p + 1].toNat * 256 + c[p + 2].toNat, p + 1 + 2) := dcU2 h
  unfold dcT_2 at e
  split at e
  · rename_i hb; cases e; exact dcO (k := 0) (m := (pure () : Decoder Unit)) (g := fun _ => .ishl) (v := ()) hF f120 h0 hb rfl
  · rename_i hb; cases e; exact dcO (k := 0) (m := (pure () : Decoder Unit)) (g := fun _ => .lshl) (v := ()) hF f121 h0 hb rfl
  · rename_i hb; cases e; exact dcO (k := 0) (m := (pure () : Decoder Unit)) (g := fun _ => .ishr) (v := ()) hF f122 h0 hb rfl
  · rename_i hb; cases e; exact dcO (k := 0) (m := (pure () : Decoder Unit)) (g := fun _ => .iand) (v := ()) hF f126 h0 hb rfl
  · rename_i hb; cases e; exact dcO (k := 0) (m := (pure () : Decoder Unit)) (g := fun _ => .ior) (v := ()) hF f128 h0 hb rfl
  · rename_i hb; cases e; exact dcO (k := 0) (m := (pure () : Decoder Unit)) (g := fun _ => .lor) (v := ()) hF f129 h0 hb rfl
  · rename_i hb; cases e; exact dcO (k := 0) (m := (pure () : Decoder Unit)) (g := fun _ => .ixor) (v := ()) hF f130 h0 hb rfl
  · rename_i hb; cases e; exact dcO2 (k := 2) (m := Reader.u1) (q := Reader.s1) (g := fun a d => .iinc a d) (v := c[p + 1].toNat) (u := Reader.signed 8 c[p + 2].toNat) hF f132 h0 hb u1 (dcM u3)
  · rename_i hb; cases e; exact dcO (k := 0) (m := (pure () : Decoder Unit)) (g := fun _ => .i2l) (v := ()) hF f133 h0 hb rfl
  · rename_i hb; cases e; exact dcO (k := 0) (m := (pure () : Decoder Unit)) (g := fun _ => .lcmp) (v := ()) hF f148 h0 hb rfl
  · rename_i hb; cases e; exact dcO (k := 2) (m := Reader.s2) (g := fun a => .ifCond .eq a) (v := Reader.signed 16 (c[p + 1].toNat * 256 + c[p + 2].toNat)) hF f153 h0 hb (dcM u2)
  · rename_i hb; cases e; exact dcO (k := 2) (m := Reader.s2) (g := fun a => .ifCond .ne a) (v := Reader.signed 16 (c[p + 1].toNat * 256 + c[p + 2].toNat)) hF f154 h0 hb (dcM u2)
  · rename_i hb; cases e; exact dcO (k := 2) (m := Reader.s2) (g := fun a => .ifCond .lt a) (v := Reader.signed 16 (c[p + 1].toNat * 256 + c[p + 2].toNat)) hF f155 h0 hb (dcM u2)
  · rename_i hb; cases e; exact dcO (k := 2) (m := Reader.s2) (g := fun a => .ifCond .ge a) (v := Reader.signed 16 (c[p + 1].toNat * 256 + c[p + 2].toNat)) hF f156 h0 hb (dcM u2)
  · rename_i hb; cases e; exact dcO (k := 2) (m := Reader.s2) (g := fun a => .ifCond .le a) (v := Reader.signed 16 (c[p + 1].toNat * 256 + c[p + 2].toNat)) hF f158 h0 hb (dcM u2)
  · rename_i hb; cases e; exact dcO (k := 2) (m := Reader.s2) (g := fun a => .if_icmp .eq a) (v := Reader.signed 16 (c[p + 1].toNat * 256 + c[p + 2].toNat)) hF f159 h0 hb (dcM u2)
  · rename_i hb; cases e; exact dcO (k := 2) (m := Reader.s2) (g := fun a => .if_icmp .ne a) (v := Reader.signed 16 (c[p + 1].toNat * 256 + c[p + 2].toNat)) hF f160 h0 hb (dcM u2)
  · rename_i hb; cases e; exact dcO (k := 2) (m := Reader.s2) (g := fun a => .if_icmp .lt a) (v := Reader.signed 16 (c[p + 1].toNat * 256 + c[p + 2].toNat)) hF f161 h0 hb (dcM u2)
  · rename_i hb; cases e; exact dcO (k := 2) (m := Reader.s2) (g := fun a => .if_icmp .ge a) (v := Reader.signed 16 (c[p + 1].toNat * 256 + c[p + 2].toNat)) hF f162 h0 hb (dcM u2)
  · rename_i hb; cases e; exact dcO (k := 2) (m := Reader.s2) (g := fun a => .if_icmp .gt a) (v := Reader.signed 16 (c[p + 1].toNat * 256 + c[p + 2].toNat)) hF f163 h0 hb (dcM u2)
  · rename_i hb; cases e; exact dcO (k := 2) (m := Reader.s2) (g := fun a => .if_icmp .le a) (v := Reader.signed 16 (c[p + 1].toNat * 256 + c[p + 2].toNat)) hF f164 h0 hb (dcM u2)
  · rename_i hb; cases e; exact dcO (k := 2) (m := Reader.s2) (g := fun a => .goto a) (v := Reader.signed 16 (c[p + 1].toNat * 256 + c[p + 2].toNat)) hF f167 h0 hb (dcM u2)
  · rename_i hb; cases e; exact dcO (k := 0) (m := (pure () : Decoder Unit)) (g := fun _ => .ireturn) (v := ()) hF f172 h0 hb rfl
  · rename_i hb; cases e; exact dcO (k := 0) (m := (pure () : Decoder Unit)) (g := fun _ => .areturn) (v := ()) hF f176 h0 hb rfl
  · cases e
theorem dcF_3 (p : Nat) : ∃ F : Nat → Decoder Instr, Decoder.instr p = (Reader.u1 >>= F)
    ∧ F 178 = (Reader.u2 >>= fun a => pure (.getstatic a))
    ∧ F 180 = (Reader.u2 >>= fun a => pure (.getfield a))
    ∧ F 181 = (Reader.u2 >>= fun a => pure (.putfield a))
    ∧ F 182 = (Reader.u2 >>= fun a => pure (.invokevirtual a))
    ∧ F 183 = (Reader.u2 >>= fun a => pure (.invokespecial a))
    ∧ F 184 = (Reader.u2 >>= fun a => pure (.invokestatic a))
    ∧ F 187 = (Reader.u2 >>= fun a => pure (.new a))
    ∧ F 189 = (Reader.u2 >>= fun a => pure (.anewarray a))
    ∧ F 190 = ((pure () : Decoder Unit) >>= fun _ => pure (.arraylength))
    ∧ F 198 = (Reader.s2 >>= fun a => pure (.ifnull a))
    ∧ F 199 = (Reader.s2 >>= fun a => pure (.ifnonnull a)) :=
  ⟨_, rfl, rfl, rfl, rfl, rfl, rfl, rfl, rfl, rfl, rfl, rfl, rfl⟩
def dcT_3 (x y z : Nat) : Option (Instr × Nat) :=
  match x with
  | 178 => some (.getstatic (y * 256 + z), 3)
  | 180 => some (.getfield (y * 256 + z), 3)
  | 181 => some (.putfield (y * 256 + z), 3)
  | 182 => some (.invokevirtual (y * 256 + z), 3)
  | 183 => some (.invokespecial (y * 256 + z), 3)
  | 184 => some (.invokestatic (y * 256 + z), 3)
  | 187 => some (.new (y * 256 + z), 3)
  | 189 => some (.anewarray (y * 256 + z), 3)
  | 190 => some (.arraylength, 1)
  | 198 => some (.ifnull (Reader.signed 16 (y * 256 + z)), 3)
  | 199 => some (.ifnonnull (Reader.signed 16 (y * 256 + z)), 3)
  | _ => none
theorem dcT_ok_3 {c : ByteArray} {p : Nat} {r : Instr × Nat} (h : p + 2 < c.size) (e : dcT_3 c[p].toNat c[p + 1].toNat c[p + 2].toNat = some r) : decode c p = .ok r := by
  obtain ⟨F, hF, f178, f180, f181, f182, f183, f184, f187, f189, f190, f198, f199⟩ := dcF_3 p
  have h0 : p < c.size := by omega
  have h1 : p + 1 < c.size := by omega
  have u1 : (Reader.u1 : Reader DecodeError Nat) c (p + 1) = .ok (c[p + 1].toNat, p + 1 + 1) := dcU h1
  have u3 : (Reader.u1 : Reader DecodeError Nat) c (p + 1 + 1) = .ok (c[p + 2].toNat, p + 1 + 2) := dcU h
  have u2 : (Reader.u2 : Reader DecodeError Nat) c (p + 1) = .ok (c[p + 1].toNat * 256 + c[p + 2].toNat, p + 1 + 2) := dcU2 h
  unfold dcT_3 at e
  split at e
  · rename_i hb; cases e; exact dcO (k := 2) (m := Reader.u2) (g := fun a => .getstatic a) (v := c[p + 1].toNat * 256 + c[p + 2].toNat) hF f178 h0 hb u2
  · rename_i hb; cases e; exact dcO (k := 2) (m := Reader.u2) (g := fun a => .getfield a) (v := c[p + 1].toNat * 256 + c[p + 2].toNat) hF f180 h0 hb u2
  · rename_i hb; cases e; exact dcO (k := 2) (m := Reader.u2) (g := fun a => .putfield a) (v := c[p + 1].toNat * 256 + c[p + 2].toNat) hF f181 h0 hb u2
  · rename_i hb; cases e; exact dcO (k := 2) (m := Reader.u2) (g := fun a => .invokevirtual a) (v := c[p + 1].toNat * 256 + c[p + 2].toNat) hF f182 h0 hb u2
  · rename_i hb; cases e; exact dcO (k := 2) (m := Reader.u2) (g := fun a => .invokespecial a) (v := c[p + 1].toNat * 256 + c[p + 2].toNat) hF f183 h0 hb u2
  · rename_i hb; cases e; exact dcO (k := 2) (m := Reader.u2) (g := fun a => .invokestatic a) (v := c[p + 1].toNat * 256 + c[p + 2].toNat) hF f184 h0 hb u2
  · rename_i hb; cases e; exact dcO (k := 2) (m := Reader.u2) (g := fun a => .new a) (v := c[p + 1].toNat * 256 + c[p + 2].toNat) hF f187 h0 hb u2
  · rename_i hb; cases e; exact dcO (k := 2) (m := Reader.u2) (g := fun a => .anewarray a) (v := c[p + 1].toNat * 256 + c[p + 2].toNat) hF f189 h0 hb u2
  · rename_i hb; cases e; exact dcO (k := 0) (m := (pure () : Decoder Unit)) (g := fun _ => .arraylength) (v := ()) hF f190 h0 hb rfl
  · rename_i hb; cases e; exact dcO (k := 2) (m := Reader.s2) (g := fun a => .ifnull a) (v := Reader.signed 16 (c[p + 1].toNat * 256 + c[p + 2].toNat)) hF f198 h0 hb (dcM u2)
  · rename_i hb; cases e; exact dcO (k := 2) (m := Reader.s2) (g := fun a => .ifnonnull a) (v := Reader.signed 16 (c[p + 1].toNat * 256 + c[p + 2].toNat)) hF f199 h0 hb (dcM u2)
  · cases e
def dcT (x y z : Nat) : Option (Instr × Nat) :=
  if x ≤ 45 then dcT_0 x y z else
  if x ≤ 116 then dcT_1 x y z else
  if x ≤ 176 then dcT_2 x y z else
  dcT_3 x y z
theorem dcT_ok {c : ByteArray} {p : Nat} {r : Instr × Nat} (h : p + 2 < c.size) (e : dcT c[p].toNat c[p + 1].toNat c[p + 2].toNat = some r) : decode c p = .ok r := by
  unfold dcT at e
  split at e
  · exact dcT_ok_0 h e
  split at e
  · exact dcT_ok_1 h e
  split at e
  · exact dcT_ok_2 h e
  exact dcT_ok_3 h e
def dcL (l : List UInt8) : Option (Instr × Nat) :=
  match l with
  | x :: y :: z :: _ => dcT x.toNat y.toNat z.toNat
  | _ => none
theorem dcG {d : List UInt8} {b n : Nat} {l : List UInt8} (h : (d.drop b).take n = l) {j : Nat} {x y z : UInt8} {t : List UInt8} (e : l.drop j = x :: y :: z :: t) :
    ∃ u, d.drop (b + j) = x :: y :: z :: u := by
  have hu : l ++ (d.drop b).drop n = d.drop b := by rw [← h]; exact List.take_append_drop n (d.drop b)
  have hj : j ≤ l.length := by
    rcases Nat.lt_or_ge l.length j with h' | h'
    · rw [List.drop_eq_nil_of_le (Nat.le_of_lt h')] at e; cases e
    · exact h'
  generalize (d.drop b).drop n = w at hu
  refine ⟨t ++ w, ?_⟩
  rw [← List.drop_drop, ← hu, List.drop_append_of_le_length hj, e]; rfl
theorem dcR {c : ByteArray} (b j : Nat) {n : Nat} {l : List UInt8} (h : (c.data.toList.drop b).take n = l) {r : Instr × Nat} (e : dcL (l.drop j) = some r) : decode c (b + j) = .ok r := by
  unfold dcL at e
  split at e
  · rename_i x y z t hl
    obtain ⟨u, hu⟩ := dcG h hl
    have g0 : c.data.toList[b + j]? = some x := by rw [← List.head?_drop, hu]; rfl
    have g1 : c.data.toList[b + j + 1]? = some y := by rw [← List.head?_drop, ← List.drop_drop, hu]; rfl
    have g2 : c.data.toList[b + j + 2]? = some z := by rw [← List.head?_drop, ← List.drop_drop, hu]; rfl
    obtain ⟨k0, v0⟩ := List.getElem?_eq_some_iff.mp g0
    obtain ⟨k1, v1⟩ := List.getElem?_eq_some_iff.mp g1
    obtain ⟨k2, v2⟩ := List.getElem?_eq_some_iff.mp g2
    have hs : b + j + 2 < c.size := k2
    have w0 : c[b + j] = x := v0
    have w1 : c[b + j + 1] = y := v1
    have w2 : c[b + j + 2] = z := v2
    exact dcT_ok hs (by rw [w0, w1, w2]; exact e)
  · cases e
end
