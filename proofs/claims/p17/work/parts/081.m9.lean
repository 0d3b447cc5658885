section
variable {η : zRn}
/-! names of cells: a table over another one -/
def zηx (n : Nat) (cd AD : Nat → Nat) (η : zRn) : zRn := (fun a => match (List.range n).find? (fun i => cd i == a) with
  | some i => AD i
  | none => η.1 a, fun q => match (List.range n).find? (fun i => AD i == q) with
  | some i => cd i
  | none => η.2 q)
/-! new cells by a pattern: kinds, contents; a reference names a cell of the pattern -/
abbrev zTm : Type := List (Nat × List (Int ⊕ Nat))
def zval (cd : Nat → Nat) : Int ⊕ Nat → Int
  | .inl v => v
  | .inr i => (cd i : Int)
def zdf0 (K : zKD) : Int ⊕ Nat := if K.1 = 2 then .inl (-1) else .inl 0
def zkT (kds : List zKD) (T : zTm) (i : Nat) : zKD := kds.getD (T.getD i (0, [])).1 (0, 0, 0, [])
def zct (kds : List zKD) (T : zTm) (cd : Nat → Nat) (i j : Nat) : Int := zval cd ((T.getD i (0, [])).2.getD j (zdf0 (zkT kds T i)))
def zokv (t : Nat) (v : Int) : Bool := match t with
  | 0 => decide (-2147483648 ≤ v) && decide (v ≤ 2147483647)
  | 1 => decide (-9223372036854775808 ≤ v) && decide (v ≤ 9223372036854775807)
  | _ + 2 => decide (v = -1)
def zokj (T : zTm) (K : zKD) (vs : List (Int ⊕ Nat)) (j : Nat) : Bool := match vs.getD j (zdf0 K) with
  | .inl v => zokv (zty K j).1 v && decide ((zty K j).2.1 ≤ v) && decide (v ≤ (zty K j).2.2)
  | .inr i => (match T[i]? with
    | none => false
    | some r => decide ((zty K j).1 = r.1 + 2)) && decide ((zty K j).2.1 ≤ 0) && decide (1000000 ≤ (zty K j).2.2)
def zokT (kds : List zKD) (T : zTm) : Bool := T.all (fun q => match kds[q.1]? with
  | none => false
  | some K => decide (K.1 ≤ 2) && (List.range K.2.2.1).all (zokj T K q.2))
def zTh (T : zTm) (cd : Nat → Nat) (Θ : Nat → Option Nat) (a : Nat) : Option Nat := match (List.range T.length).find? (fun i => cd i == a) with
  | some i => some (T.getD i (0, [])).1
  | none => Θ a
def zhh (kds : List zKD) (T : zTm) (cd : Nat → Nat) (h : Nat → Nat → Int) (a : Nat) : Nat → Int := match (List.range T.length).find? (fun i => cd i == a) with
  | some i => zct kds T cd i
  | none => h a
def zinj (n : Nat) (cd : Nat → Nat) : Prop := ∀ i j, i < n → j < n → cd i = cd j → i = j
theorem z_fnd {n : Nat} {cd : Nat → Nat} (hj : zinj n cd) {i : Nat} (hi : i < n) : (List.range n).find? (fun k => cd k == cd i) = some i := by
  cases hf : (List.range n).find? (fun k => cd k == cd i) with
  | none =>
    have := List.find?_eq_none.mp hf i (List.mem_range.mpr hi)
    simp at this
  | some k =>
    have h1 := List.find?_some hf
    have h2 := List.mem_range.mp (List.mem_of_find?_eq_some hf)
    simp only [beq_iff_eq] at h1
    rw [hj k i h2 hi h1]
theorem z_fnn {n : Nat} {cd : Nat → Nat} {a : Nat} (h : ∀ i, i < n → cd i ≠ a) : (List.range n).find? (fun k => cd k == a) = none := by
  rw [List.find?_eq_none]
  intro i hi
  simp only [beq_iff_eq]
  exact h i (List.mem_range.mp hi)
theorem zTh_at {T : zTm} {cd : Nat → Nat} {Θ : Nat → Option Nat} (hj : zinj T.length cd) {i : Nat} (hi : i < T.length) : zTh T cd Θ (cd i) = some (T.getD i (0, [])).1 := by
  unfold zTh
  rw [z_fnd hj hi]
theorem zTh_ne {T : zTm} {cd : Nat → Nat} {Θ : Nat → Option Nat} {a : Nat} (h : ∀ i, i < T.length → cd i ≠ a) : zTh T cd Θ a = Θ a := by
  unfold zTh
  rw [z_fnn h]
theorem zhh_at {kds : List zKD} {T : zTm} {cd : Nat → Nat} {h : Nat → Nat → Int} (hj : zinj T.length cd) {i : Nat} (hi : i < T.length) : zhh kds T cd h (cd i) = zct kds T cd i := by
  unfold zhh
  rw [z_fnd hj hi]
theorem zhh_ne {kds : List zKD} {T : zTm} {cd : Nat → Nat} {h : Nat → Nat → Int} {a : Nat} (hn : ∀ i, i < T.length → cd i ≠ a) : zhh kds T cd h a = h a := by
  unfold zhh
  rw [z_fnn hn]
theorem z_okm {Θ Θ' : Nat → Option Nat} {t : Nat} {x : Int} (hm : ∀ a k, Θ a = some k → Θ' a = some k) (h : zok Θ t x) : zok Θ' t x := by
  match t, h with
  | 0, h => exact h
  | 1, h => exact h
  | k + 2, h =>
    rcases h with h | ⟨h1, h2⟩
    · exact Or.inl h
    · exact Or.inr ⟨h1, hm _ _ h2⟩
theorem z_gdT {T : zTm} {i : Nat} {r : Nat × List (Int ⊕ Nat)} (h : T[i]? = some r) : T.getD i (0, []) = r := by
  rw [List.getD_eq_getElem?_getD, h]
  rfl
theorem z_gdT2 {T : zTm} {i : Nat} (h : i < T.length) : T[i]? = some (T.getD i (0, [])) := by
  rw [List.getD_eq_getElem?_getD, List.getElem?_eq_getElem h]
  rfl
theorem zH_app {kds : List zKD} {D : va_G} {cl : List vw_C} {cy : Nat → ClassId} {L : List Nat} {Θ : Nat → Option Nat} {h : Nat → Nat → Int} {H : Heap} {T : zTm} {cd : Nat → Nat} (h21 : ∀ i, i < T.length → η.2 (η.1 (cd i)) = cd i) (hH : zH η kds D cl cy L Θ h H) (hT : zokT kds T = true) (hj : zinj T.length cd) (hlt : ∀ i, i < T.length → cd i < 1000000) (hnew : ∀ i, i < T.length → Θ (cd i) = none) (hL : ∀ i, i < T.length → η.1 (cd i) ∉ L)
    (hP : ∀ i, i < T.length → va_at D cl (η.1 (cd i), zE η cy (zkT kds T i) (zct kds T cd i)) H) : zH η kds D cl cy (L ++ (List.range T.length).map (fun i => η.1 (cd i))) (zTh T cd Θ) (zhh kds T cd h) H := by
  have hold : ∀ q ∈ L, ∀ i, i < T.length → cd i ≠ η.2 q := fun q hq i hi e => hL i hi (by rw [e, hH.2.1 q hq]; exact hq)
  have hmono : ∀ a k, Θ a = some k → zTh T cd Θ a = some k := fun a k ha => by
    rw [zTh_ne (fun i hi e => by rw [← e, hnew i hi] at ha; cases ha)]
    exact ha
  refine ⟨fun k q hk => ?_, fun q hq => ?_, fun a k ha => ?_⟩
  · rw [List.nil_append] at hk
    unfold va_pl at hk
    rw [List.getElem?_map] at hk
    obtain ⟨r, hr, rfl⟩ := Option.map_eq_some_iff.mp hk
    rcases List.mem_append.mp (List.mem_of_getElem? hr) with hr | hr
    · obtain ⟨k2, hk2⟩ := va_pl_get (X := []) (f := zF η kds cy Θ h) hr
      have := hH.1 k2 _ hk2
      have e : zF η kds cy (zTh T cd Θ) (zhh kds T cd h) r = zF η kds cy Θ h r := by
        unfold zF zf
        rw [zTh_ne (hold r hr), zhh_ne (hold r hr)]
      rw [e]
      exact this
    · obtain ⟨i, hi, rfl⟩ := List.mem_map.mp hr
      have hi := List.mem_range.mp hi
      have e : zF η kds cy (zTh T cd Θ) (zhh kds T cd h) (η.1 (cd i)) = zE η cy (zkT kds T i) (zct kds T cd i) := by
        unfold zF zf
        rw [h21 i hi, zTh_at hj hi, zhh_at hj hi]
        rfl
      rw [e]
      exact hP i hi
  · rcases List.mem_append.mp hq with hq | hq
    · exact hH.2.1 q hq
    · obtain ⟨i, hi, rfl⟩ := List.mem_map.mp hq
      rw [h21 i (List.mem_range.mp hi)]
  · by_cases hex : ∃ i, i < T.length ∧ cd i = a
    · obtain ⟨i, hi, rfl⟩ := hex
      rw [zTh_at hj hi] at ha
      cases ha
      have hq := List.all_eq_true.mp hT _ (List.mem_of_getElem? (z_gdT2 hi))
      cases hK : kds[(T.getD i (0, [])).1]? with
      | none => rw [hK] at hq; cases hq
      | some K =>
        rw [hK] at hq
        simp only [Bool.and_eq_true, decide_eq_true_eq] at hq
        have hkT : zkT kds T i = K := by
          unfold zkT
          rw [List.getD_eq_getElem?_getD, hK]
          rfl
        refine ⟨K, rfl, fun _ => ⟨List.mem_append_right _ (List.mem_map.mpr ⟨i, List.mem_range.mpr hi, rfl⟩), h21 i hi⟩, fun j hjK => ?_⟩
        have hv := List.all_eq_true.mp hq.2 j (List.mem_range.mpr hjK)
        rw [zhh_at hj hi]
        unfold zct
        rw [hkT]
        unfold zokj at hv
        split at hv
        · rename_i v ev
          rw [ev]
          simp only [Bool.and_eq_true, decide_eq_true_eq] at hv
          refine ⟨?_, hv.1.2, hv.2⟩
          have h0 := hv.1.1
          show zok _ _ v
          cases ht : (zty K j).1 with
          | zero =>
            rw [ht] at h0
            have : -2147483648 ≤ v ∧ v ≤ 2147483647 := by simpa [zokv] using h0
            exact this
          | succ t =>
            cases t with
            | zero =>
              rw [ht] at h0
              have : -9223372036854775808 ≤ v ∧ v ≤ 9223372036854775807 := by simpa [zokv] using h0
              exact this
            | succ t =>
              rw [ht] at h0
              exact Or.inl (by simpa [zokv] using h0)
        · rename_i i2 ev
          rw [ev]
          simp only [Bool.and_eq_true, decide_eq_true_eq] at hv
          obtain ⟨⟨h0, h1⟩, h2⟩ := hv
          cases hr : T[i2]? with
          | none => rw [hr] at h0; cases h0
          | some r =>
            rw [hr] at h0
            have h0 := of_decide_eq_true h0
            have hi2 : i2 < T.length := (List.getElem?_eq_some_iff.mp hr).1
            have hl2 := hlt i2 hi2
            refine ⟨?_, ?_, ?_⟩
            · rw [h0]
              refine Or.inr ⟨Int.natCast_nonneg _, ?_⟩
              show zTh T cd Θ ((cd i2 : Int)).toNat = some r.1
              rw [Int.toNat_natCast, zTh_at hj hi2, z_gdT hr]
            · show (zty K j).2.1 ≤ (cd i2 : Int)
              omega
            · show (cd i2 : Int) ≤ (zty K j).2.2
              omega
    · have hne : ∀ i, i < T.length → cd i ≠ a := fun i hi e => hex ⟨i, hi, e⟩
      rw [zTh_ne hne] at ha
      obtain ⟨K, e1, e2, e3⟩ := hH.2.2 a k ha
      refine ⟨K, e1, fun h0 => ⟨List.mem_append_left _ (e2 h0).1, (e2 h0).2⟩, fun j hj2 => ?_⟩
      rw [zhh_ne hne]
      exact ⟨z_okm hmono (e3 j hj2).1, (e3 j hj2).2⟩
/-! the same with addresses -/
def zdv (AD : Nat → Nat) (t : Nat) : Int ⊕ Nat → Value
  | .inl v => (match t with
    | 0 => .int (Int32.ofInt v)
    | 1 => .long (Int64.ofInt v)
    | _ + 2 => .null)
  | .inr i => .ref (AD i)
def zrv (AD : Nat → Nat) : Int ⊕ Nat → Option Nat
  | .inl _ => none
  | .inr i => some (AD i)
def znv : Int ⊕ Nat → Int
  | .inl v => v
  | .inr _ => 0
def zEv (AD : Nat → Nat) (cy : Nat → ClassId) (K : zKD) (vs : List (Int ⊕ Nat)) : va_E := match K.1 with
  | 0 => .inr (K.2.1, (List.range K.2.2.1).map (fun j => zdv AD (zty K j).1 (vs.getD j (.inl 0))))
  | 1 => .inl (cy K.2.1, K.2.2.1, .inl (fun j => Int32.ofInt (znv (vs.getD j (.inl 0)))))
  | _ => .inl (cy K.2.1, K.2.2.1, .inr (.inr (.inr (.inr (fun j => zrv AD (vs.getD j (.inl (-1))))))))
def zokx (n : Nat) (K : zKD) (vs : List (Int ⊕ Nat)) : Bool := match K.1 with
  | 0 => true
  | 1 => vs.all (fun w => match w with
    | .inl _ => true
    | .inr _ => false)
  | _ => vs.all (fun w => match w with
    | .inl v => decide (v = -1)
    | .inr i => decide (i < n))
theorem z_dm1 (k : Nat) : zdec η (k + 2) (-1) = .null := by
  unfold zdec zrf
  simp only
  rw [if_pos (by decide)]
  rfl
theorem z_gdd {α : Type} {l : List α} {j : Nat} {d : α} {P : α → Prop} (h : ∀ w ∈ l, P w) (hd : P d) : P (l.getD j d) := by
  rw [List.getD_eq_getElem?_getD]
  cases hj : l[j]? with
  | none => exact hd
  | some w => exact h w (List.mem_of_getElem? hj)
theorem zE_T {kds : List zKD} {cy : Nat → ClassId} {T : zTm} {cd AD : Nat → Nat} (hT : zokT kds T = true) (hX : T.all (fun q => zokx T.length (kds.getD q.1 (0, 0, 0, [])) q.2) = true) (hA : ∀ i, i < T.length → η.1 (cd i) = AD i) {i : Nat} (hi : i < T.length) :
    zE η cy (zkT kds T i) (zct kds T cd i) = zEv AD cy (zkT kds T i) (T.getD i (0, [])).2 := by
  have hq := List.all_eq_true.mp hT _ (List.mem_of_getElem? (z_gdT2 hi))
  have hx := List.all_eq_true.mp hX _ (List.mem_of_getElem? (z_gdT2 hi))
  change zokx T.length (zkT kds T i) (T.getD i (0, [])).2 = true at hx
  have hK : kds[(T.getD i (0, [])).1]? = some (zkT kds T i) := by
    cases hK : kds[(T.getD i (0, [])).1]? with
    | none => rw [hK] at hq; cases hq
    | some K =>
      unfold zkT
      rw [List.getD_eq_getElem?_getD, hK]
      rfl
  rw [hK] at hq
  unfold zct
  generalize zkT kds T i = K at *
  generalize (T.getD i (0, [])).2 = vs at *
  simp only [Bool.and_eq_true, decide_eq_true_eq] at hq
  unfold zE zEv
  unfold zokx at hx
  cases h0 : K.1 with
  | zero =>
    have hd : zdf0 K = .inl 0 := by unfold zdf0; rw [if_neg (by omega)]
    simp only
    congr 2
    apply List.map_congr_left
    intro j hj
    have hv := List.all_eq_true.mp hq.2 j hj
    unfold zokj at hv
    rw [hd] at hv ⊢
    split at hv
    · rename_i v ev
      rw [ev]
      simp only [Bool.and_eq_true, decide_eq_true_eq] at hv
      have h1 := hv.1.1
      show zdec η (zty K j).1 v = zdv AD (zty K j).1 (.inl v)
      cases ht : (zty K j).1 with
      | zero => rfl
      | succ t =>
        cases t with
        | zero => rfl
        | succ t =>
          rw [ht] at h1
          have e : v = -1 := by simpa [zokv] using h1
          rw [e]
          exact z_dm1 t
    · rename_i i2 ev
      rw [ev]
      simp only [Bool.and_eq_true, decide_eq_true_eq] at hv
      cases hr : T[i2]? with
      | none => rw [hr] at hv; cases hv.1.1
      | some r =>
        rw [hr] at hv
        have e := of_decide_eq_true hv.1.1
        have hi2 : i2 < T.length := (List.getElem?_eq_some_iff.mp hr).1
        show zdec η (zty K j).1 ((cd i2 : Nat) : Int) = .ref (AD i2)
        rw [e, z_dr, hA i2 hi2]
  | succ t =>
    rw [h0] at hx
    cases t with
    | zero =>
      have hd : zdf0 K = .inl 0 := by unfold zdf0; rw [if_neg (by omega)]
      simp only
      congr 4
      funext j
      rw [hd]
      congr 1
      refine z_gdd (P := fun w => zval cd w = znv w) (fun w hw => ?_) rfl
      have := List.all_eq_true.mp hx w hw
      cases w with
      | inl v => rfl
      | inr v => cases this
    | succ t =>
      have h2 : K.1 = 2 := by omega
      have hd : zdf0 K = .inl (-1) := by unfold zdf0; rw [if_pos h2]
      simp only
      congr 7
      funext j
      rw [hd]
      have hm1 : zrf η (zval cd (.inl (-1))) = zrv AD (.inl (-1)) := by
        show zrf η (-1) = none
        unfold zrf
        rw [if_pos (by decide)]
      refine z_gdd (P := fun w => zrf η (zval cd w) = zrv AD w) (fun w hw => ?_) hm1
      have := List.all_eq_true.mp hx w hw
      cases w with
      | inl v =>
        have e : v = -1 := of_decide_eq_true this
        rw [e]
        exact hm1
      | inr i2 =>
        have hi2 : i2 < T.length := of_decide_eq_true this
        show zrf η ((cd i2 : Nat) : Int) = some (AD i2)
        unfold zrf
        rw [if_neg (by omega), Int.toNat_natCast, hA i2 hi2]
/-- new cells, at their addresses -/
theorem zH_new {kds : List zKD} {D : va_G} {cl : List vw_C} {cy : Nat → ClassId} {L : List Nat} {Θ : Nat → Option Nat} {h : Nat → Nat → Int} {H : Heap} {T : zTm} {cd AD : Nat → Nat} (hA : ∀ i, i < T.length → η.1 (cd i) = AD i) (hA2 : ∀ i, i < T.length → η.2 (AD i) = cd i) (hH : zH η kds D cl cy L Θ h H) (hT : zokT kds T = true) (hX : T.all (fun q => zokx T.length (kds.getD q.1 (0, 0, 0, [])) q.2) = true) (hj : zinj T.length cd) (hlt : ∀ i, i < T.length → cd i < 1000000) (hnew : ∀ i, i < T.length → Θ (cd i) = none) (hL : ∀ i, i < T.length → AD i ∉ L)
    (hP : ∀ i, i < T.length → va_at D cl (AD i, zEv AD cy (zkT kds T i) (T.getD i (0, [])).2) H) : zH η kds D cl cy (L ++ (List.range T.length).map AD) (zTh T cd Θ) (zhh kds T cd h) H := by
  have hm : (List.range T.length).map AD = (List.range T.length).map (fun i => η.1 (cd i)) := List.map_congr_left fun i hi => (hA i (List.mem_range.mp hi)).symm
  rw [hm]
  refine zH_app (fun i hi => by rw [hA i hi]; exact hA2 i hi) hH hT hj hlt hnew (fun i hi => ?_) (fun i hi => ?_)
  · rw [hA i hi]
    exact hL i hi
  · rw [hA i hi, zE_T (cd := cd) (AD := AD) hT hX hA hi]
    exact hP i hi
theorem z_ndnew {L : List Nat} {n : Nat} {AD : Nat → Nat} (hn : L.Nodup) (hj : zinj n AD) (hL : ∀ i, i < n → AD i ∉ L) : (L ++ (List.range n).map AD).Nodup := by
  rw [List.nodup_append]
  refine ⟨hn, ?_, fun a ha b hb e => ?_⟩
  · rw [List.nodup_iff_pairwise_ne, List.pairwise_map]
    refine List.Pairwise.imp_of_mem (fun {a b} ha hb hab => ?_) (List.nodup_iff_pairwise_ne.mp List.nodup_range)
    intro e
    exact hab (hj a b (List.mem_range.mp ha) (List.mem_range.mp hb) e)
  · obtain ⟨i, hi, rfl⟩ := List.mem_map.mp hb
    exact hL i (List.mem_range.mp hi) (by rw [← e]; exact ha)
/-- the world stays where its cells stay -/
theorem zH_kept {kds : List zKD} {D : va_G} {cl : List vw_C} {cy : Nat → ClassId} {L : List Nat} {Θ : Nat → Option Nat} {h : Nat → Nat → Int} {H H1 : Heap} (hH : zH η kds D cl cy L Θ h H) (hq : ∀ q ∈ L, H1[q]? = H[q]?) : zH η kds D cl cy L Θ h H1 := by
  refine ⟨hH.1.kept (fun k q hk => ?_), hH.2⟩
  rw [List.nil_append] at hk
  unfold va_pl at hk
  rw [List.getElem?_map] at hk
  obtain ⟨r, hr, rfl⟩ := Option.map_eq_some_iff.mp hk
  exact hq r (List.mem_of_getElem? hr)
theorem zH_lt {kds : List zKD} {D : va_G} {cl : List vw_C} {cy : Nat → ClassId} {L : List Nat} {Θ : Nat → Option Nat} {h : Nat → Nat → Int} {H : Heap} (hH : zH η kds D cl cy L Θ h H) {q : Nat} (hq : q ∈ L) : q < H.size := va_pl_lt hH.1 hq
/-! a table of names -/
theorem zηx1 {n : Nat} {cd AD : Nat → Nat} (hj : zinj n cd) {i : Nat} (hi : i < n) : (zηx n cd AD η).1 (cd i) = AD i := by
  show (match (List.range n).find? (fun k => cd k == cd i) with | some i => AD i | none => η.1 (cd i)) = AD i
  rw [z_fnd hj hi]
theorem zηx2 {n : Nat} {cd AD : Nat → Nat} (hj : zinj n AD) {i : Nat} (hi : i < n) : (zηx n cd AD η).2 (AD i) = cd i := by
  show (match (List.range n).find? (fun k => AD k == AD i) with | some i => cd i | none => η.2 (AD i)) = cd i
  rw [z_fnd hj hi]
theorem zηx1n {n : Nat} {cd AD : Nat → Nat} {a : Nat} (h : ∀ i, i < n → cd i ≠ a) : (zηx n cd AD η).1 a = η.1 a := by
  show (match (List.range n).find? (fun k => cd k == a) with | some i => AD i | none => η.1 a) = η.1 a
  rw [z_fnn h]
theorem zηx2n {n : Nat} {cd AD : Nat → Nat} {q : Nat} (h : ∀ i, i < n → AD i ≠ q) : (zηx n cd AD η).2 q = η.2 q := by
  show (match (List.range n).find? (fun k => AD k == q) with | some i => cd i | none => η.2 q) = η.2 q
  rw [z_fnn h]
/-- other names where the old ones mean the same -/
theorem zH_ren {η η' : zRn} {kds : List zKD} {D : va_G} {cl : List vw_C} {cy : Nat → ClassId} {L : List Nat} {Θ : Nat → Option Nat} {h : Nat → Nat → Int} {H : Heap} (hq : ∀ (k : Nat) (K : zKD), kds[k]? = some K → 2 ≤ K.1 → ∀ j, j < K.2.2.1 → 2 ≤ (zty K j).1) (hH : zH η kds D cl cy L Θ h H) (hT : ∀ q ∈ L, ∃ k, Θ (η.2 q) = some k) (h1 : ∀ a k, Θ a = some k → η'.1 a = η.1 a) (h2 : ∀ q ∈ L, η'.2 q = η.2 q) : zH η' kds D cl cy L Θ h H := by
  obtain ⟨p1, p2, p3⟩ := hH
  have er : ∀ t x, zok Θ (t + 2) x → zrf η' x = zrf η x := by
    intro t x hz
    unfold zrf
    rcases hz with rfl | ⟨z1, z2⟩
    · rw [if_pos (by decide), if_pos (by decide)]
    · rw [if_neg (by omega), if_neg (by omega), h1 _ _ z2]
  have e2 : ∀ t x, zok Θ t x → zdec η' t x = zdec η t x := by
    intro t x hz
    match t, hz with
    | 0, _ => rfl
    | 1, _ => rfl
    | t + 2, hz =>
      show va_rf (zrf η' x) = va_rf (zrf η x)
      rw [er t x hz]
  refine ⟨fun k q hk => ?_, fun q hq => ?_, fun a k ha => ?_⟩
  · rw [List.nil_append] at hk
    unfold va_pl at hk
    rw [List.getElem?_map] at hk
    obtain ⟨r, hr, rfl⟩ := Option.map_eq_some_iff.mp hk
    have hrL := List.mem_of_getElem? hr
    obtain ⟨k2, hk2⟩ := va_pl_get (X := []) (f := zF η kds cy Θ h) hrL
    have h9 := p1 k2 _ hk2
    obtain ⟨kk, ekk⟩ := hT r hrL
    obtain ⟨K, eK, -, eb⟩ := p3 _ _ ekk
    have eF : ∀ η0 : zRn, η0.2 r = η.2 r → zF η0 kds cy Θ h r = zE η0 cy K (h (η.2 r)) := fun η0 e0 => by
      unfold zF zf
      rw [e0, ekk, Option.getD_some, List.getD_eq_getElem?_getD, eK]
      rfl
    rw [eF η rfl] at h9
    rw [eF η' (h2 r hrL)]
    have hq2 := hq _ _ eK
    clear eF
    revert h9
    unfold zE
    cases hK1 : K.1 with
    | zero =>
      simp only
      intro h9
      have e9 : (List.range K.2.2.1).map (fun j => zdec η' (zty K j).1 (h (η.2 r) j)) = (List.range K.2.2.1).map (fun j => zdec η (zty K j).1 (h (η.2 r) j)) := List.map_congr_left fun j hj => e2 _ _ (eb j (List.mem_range.mp hj)).1
      rw [e9]
      exact h9
    | succ t =>
      cases t with
      | zero =>
        simp only
        intro h9
        exact h9
      | succ t =>
        simp only
        intro h9
        have e9 : arrV (cy K.2.1) K.2.2.1 (fun j => va_rf (zrf η' (h (η.2 r) j))) = arrV (cy K.2.1) K.2.2.1 (fun j => va_rf (zrf η (h (η.2 r) j))) := by
          unfold arrV
          congr 2
          funext j
          have h2t := hq2 (by omega) j.val j.isLt
          obtain ⟨t', et⟩ : ∃ t', (zty K j.val).1 = t' + 2 := ⟨(zty K j.val).1 - 2, by omega⟩
          have h8 := (eb j.val j.isLt).1
          rw [et] at h8
          simp only
          rw [er t' _ h8]
        show H[r]? = some (arrV (cy K.2.1) K.2.2.1 (fun j => va_rf (zrf η' (h (η.2 r) j))))
        rw [e9]
        exact h9
  · obtain ⟨k, ek⟩ := hT q hq
    rw [h2 q hq, h1 _ _ ek]
    exact p2 q hq
  · obtain ⟨K, e1, e2, e3⟩ := p3 a k ha
    refine ⟨K, e1, fun hK => ?_, e3⟩
    obtain ⟨m1, m2⟩ := e2 hK
    rw [h1 _ _ ha]
    exact ⟨m1, by rw [h2 _ m1]; exact m2⟩
theorem zkds_q : ∀ (k : Nat) (K : zKD), zkds[k]? = some K → 2 ≤ K.1 → ∀ j, j < K.2.2.1 → 2 ≤ (zty K j).1 := by
  intro k K hK h2 j hj
  have hk : k < 64 := (List.getElem?_eq_some_iff.mp hK).1
  have key : ∀ k : Fin 64, ((zkds[k.1]?).all (fun K => decide (K.1 < 2) || (List.range K.2.2.1).all (fun j => decide (2 ≤ (zty K j).1)))) = true := by decide +kernel
  have := key ⟨k, hk⟩
  simp only at this
  rw [hK] at this
  simp only [Option.all_some, Bool.or_eq_true, decide_eq_true_eq, List.all_eq_true, List.mem_range] at this
  rcases this with w | w
  · omega
  · exact w j hj
end
section
variable {η : zRn}
/-! a contract's call, where cells have been made -/
section LWC
variable {kds : List zKD} {D : va_G} {cl : List vw_C} {cy : Nat → ClassId} {L : List Nat} {Θ : Nat → Option Nat} {nL : Nat}
variable {p : Program} {l : Launch} {e : Env} {R : Room} {s : State} {m : MethodId} {args : Array Value} {below : List Frame} {meth : Method} {c : Code} {Q : State → Prop}
variable {cc : ByteArray} {pc : Nat} {TW Ts : List Cond} {own : String} {KP : zKPt} {tyf : (Nat → ClassId) → List (ClassId × FieldType)} {cells slots : Nat}
end LWC
/-! statics: what holds of them, whatever cells are made -/
def zS0 (base : Nat) (tb adK adV : Nat → Nat) (fv : Option Nat) (U : State) : Prop :=
  (∀ i, i < 4 → va_Z RX4 (zTn i) "[I" (.ref (tb i)) (fun q => base ≤ q) U U.heap ∧ va_T .int (tb i) (zTv i).length (fun j => .int (Int32.ofInt ((zTv i).getD j 0))) (fun q => base ≤ q) U U.heap) ∧
  vk_S 15 zSl zSb adK adV (fun q => base ≤ q) U U.heap ∧ (∀ i, i < 15 → vk_R RX4 (zSi.getD i 0) (zSt.getD i "") (adK i) U) ∧
  va_Z RJ0 "COMPACT_STRINGS" "Z" (.int 1) (fun q => base ≤ q) U U.heap ∧ va_Z RJ3 "SIOOBE_FORMATTER" "Ljava/util/function/BiFunction;" (va_rf fv) (fun q => base ≤ q) U U.heap
theorem zS0.go {base : Nat} {tb adK adV : Nat → Nat} {fv : Option Nat} {s U : State} (h : zS0 base tb adK adV fv s) (hW : s.WarmedH U.vm) (hq : ∀ q : Nat, q < s.heap.size → ¬ (base ≤ q) → U.heap[q]? = s.heap[q]?) : zS0 base tb adK adV fv U := by
  obtain ⟨h1, h2, h3, h4, h5⟩ := h
  exact ⟨fun i hi => ⟨((h1 i hi).1.moved hW.alike).kept hq, ((h1 i hi).2.moved hW.alike).kept hq⟩, (h2.moved hW.alike).kept hq, fun i hi => (h3 i hi).warm hW, (h4.moved hW.alike).kept hq, (h5.moved hW.alike).kept hq⟩
theorem zS0.same {base : Nat} {tb adK adV : Nat → Nat} {fv : Option Nat} {s U : State} (h : zS0 base tb adK adV fv s) (hv : U.vm = s.vm) (hh : U.heap = s.heap) : zS0 base tb adK adV fv U := by
  obtain ⟨h1, h2, h3, h4, h5⟩ := h
  have ha : s.vm.Alike U.vm := by rw [hv]; exact Vm.Alike.refl s.vm
  have hq : ∀ q : Nat, q < s.heap.size → ¬ (fun q => base ≤ q) q → U.heap[q]? = s.heap[q]? := fun q _ _ => by rw [hh]
  exact ⟨fun i hi => ⟨((h1 i hi).1.moved ha).kept hq, ((h1 i hi).2.moved ha).kept hq⟩, (h2.moved ha).kept hq, fun i hi => (h3 i hi).same hv, (h4.moved ha).kept hq, (h5.moved ha).kept hq⟩
/-- the Strings' names -/
def zNm (Θ : Nat → Option Nat) : Prop := (∀ i, i < 15 → Θ (1000000 + i) = some (zKs (zSl.getD i 0))) ∧ ∀ a n, 3 ≤ n → n ≤ 5 → Θ a = some (zKs n) → ∃ i, i < 15 ∧ 1000000 + i = a ∧ zSl.getD i 0 = n
theorem zST_of {base : Nat} {tb adK adV : Nat → Nat} {fv : Option Nat} {U : State} {L : List Nat} {Θ : Nat → Option Nat} (hη : ∀ i, i < 15 → η.1 (1000000 + i) = adK i) (h : zS0 base tb adK adV fv U) (hL : ∀ q ∈ L, base ≤ q) (hN : zNm Θ) : zST η L Θ U := by
  obtain ⟨h1, h2, h3, h4, h5⟩ := h
  exact ⟨tb, adK, adV, fun i => 1000000 + i, fv, fun i hi => ⟨(h1 i hi).1.narrow hL, (h1 i hi).2.narrow hL⟩, h2.narrow hL, h3, h4.narrow hL, h5.narrow hL, fun i hi => ⟨hN.1 i hi, rfl, hη i hi⟩, hN.2⟩
def zNm0 (a : Nat) : Option Nat := if 1000000 ≤ a ∧ a < 1000015 then some (zKs (zSl.getD (a - 1000000) 0)) else none
theorem zNm0_ok : zNm zNm0 := by
  refine ⟨fun i hi => ?_, fun a n h1 h2 ha => ?_⟩
  · unfold zNm0
    rw [if_pos (by omega), show 1000000 + i - 1000000 = i by omega]
  · unfold zNm0 at ha
    split at ha
    · rename_i hc
      refine ⟨a - 1000000, by omega, by omega, ?_⟩
      have e := Option.some.inj ha
      unfold zKs at e
      omega
    · cases ha
/-! from the start no cell but the Strings has a name -/
theorem zH_nil {kds : List zKD} {D : va_G} {cl : List vw_C} {cy : Nat → ClassId} {h : Nat → Nat → Int} {H : Heap} : zH η kds D cl cy [] (fun _ => none) h H := ⟨fun k q hk => (by simp [va_pl] at hk), fun q hq => (by cases hq), fun a k ha => (by cases ha)⟩
theorem zS_k3 : ∀ i : Fin 15, ∃ K : zKD, zkds[zKs (zSl.getD i.1 0)]? = some K ∧ ¬ K.1 ≤ 2 ∧ K.2.2.1 = 0 := by
  decide +kernel
theorem zH_nil0 {D : va_G} {cl : List vw_C} {cy : Nat → ClassId} {h : Nat → Nat → Int} {H : Heap} : zH η zkds D cl cy [] zNm0 h H := by
  refine ⟨fun k q hk => (by simp [va_pl] at hk), fun q hq => (by cases hq), fun a k ha => ?_⟩
  unfold zNm0 at ha
  split at ha
  · rename_i hc
    have e := Option.some.inj ha
    subst e
    clear ha
    obtain ⟨K, h1, h2, h3⟩ := zS_k3 ⟨a - 1000000, by omega⟩
    exact ⟨K, h1, fun z => absurd z h2, fun j hj => by rw [h3] at hj; omega⟩
  · cases ha
end
section
variable {η : zRn}
/-! what the law keeps of the two: how much is told, which images are there and how much each holds; the seas that are told -/
theorem z_ptr {kds : List zKD} {D : va_G} {cl : List vw_C} {cy : Nat → ClassId} {L : List Nat} {Θ : Nat → Option Nat} {h : Nat → Nat → Int} {H : Heap} (hH : zH η kds D cl cy L Θ h H) {a kk j t : Nat} {B : Int} {K : zKD} (ha : Θ a = some kk) (hK : kds[kk]? = some K) (hj : j < K.2.2.1) (ht : zty K j = (t + 2, 0, B)) : 0 ≤ h a j ∧ Θ (h a j).toNat = some t := by
  obtain ⟨h1, h2, -⟩ := zH_in hH ha hK hj
  rw [ht] at h1 h2
  rcases h1 with h1 | h1
  · simp only at h2
    omega
  · exact h1
theorem z_ptrn {kds : List zKD} {D : va_G} {cl : List vw_C} {cy : Nat → ClassId} {L : List Nat} {Θ : Nat → Option Nat} {h : Nat → Nat → Int} {H : Heap} (hH : zH η kds D cl cy L Θ h H) {a kk j t : Nat} {A B : Int} {K : zKD} (ha : Θ a = some kk) (hK : kds[kk]? = some K) (hj : j < K.2.2.1) (ht : zty K j = (t + 2, A, B)) : h a j = -1 ∨ (0 ≤ h a j ∧ Θ (h a j).toNat = some t) := by
  obtain ⟨h1, h2, -⟩ := zH_in hH ha hK hj
  rw [ht] at h1
  exact h1
theorem z_num {kds : List zKD} {D : va_G} {cl : List vw_C} {cy : Nat → ClassId} {L : List Nat} {Θ : Nat → Option Nat} {h : Nat → Nat → Int} {H : Heap} (hH : zH η kds D cl cy L Θ h H) {a kk j : Nat} {A B : Int} {K : zKD} (ha : Θ a = some kk) (hK : kds[kk]? = some K) (hj : j < K.2.2.1) (ht : zty K j = (0, A, B)) : A ≤ h a j ∧ h a j ≤ B := by
  obtain ⟨-, h2, h3⟩ := zH_in hH ha hK hj
  rw [ht] at h2 h3
  exact ⟨h2, h3⟩
section LRC
variable {D : va_G} {cy : Nat → ClassId} {L : List Nat} {Θ : Nat → Option Nat} {h h' : Nat → Nat → Int} {H : Heap} {a : Nat}
theorem zkd_62 : zkds[62]? = some (2, 6, 3, [(31, (-1), 2147483647), (32, (-1), 2147483647), (33, (-1), 2147483647)]) := rfl
end LRC
section LRR
variable {D : va_G} {cy : Nat → ClassId} {M : List Nat} {Ξ : Nat → Option Nat} {g g' : Nat → Nat → Int} {H : Heap} {b : Nat}
end LRR
/-! values of a call -/
end
section
variable {η ζ : zRn}
/-! kinds of cells by their names; bounds of what is told; what calls leave -/
section KND
variable {D : va_G} {cy : Nat → ClassId} {L : List Nat} {Θ : Nat → Option Nat} {h h' : Nat → Nat → Int} {H : Heap}
theorem zkK : ∀ k : Fin 64, zkds[k.1]? = some (zkds.getD k.1 (0, 0, 0, [])) := fun k => by
  rw [List.getD_eq_getElem?_getD, List.getElem?_eq_getElem (show k.1 < zkds.length from k.2)]
  rfl
theorem kst {a kk j t v : Nat} {B : Int} (hH : zH η zkds D vwCl cy L Θ h H) (ha : Θ a = some kk) (hk : kk < 64) (hj : j < (zkds.getD kk (0, 0, 0, [])).2.2.1) (ht : zty (zkds.getD kk (0, 0, 0, [])) j = (t + 2, 0, B)) (hv : h a j = (v : Int)) : Θ v = some t := by
  have := (z_ptr hH ha (zkK ⟨kk, hk⟩) hj ht).2
  rw [hv, Int.toNat_natCast] at this
  exact this
theorem knm {a kk j : Nat} {A B : Int} (hH : zH η zkds D vwCl cy L Θ h H) (ha : Θ a = some kk) (hk : kk < 64) (hj : j < (zkds.getD kk (0, 0, 0, [])).2.2.1) (ht : zty (zkds.getD kk (0, 0, 0, [])) j = (0, A, B)) : A ≤ h a j ∧ h a j ≤ B := z_num hH ha (zkK ⟨kk, hk⟩) hj ht
def cKLb : List (Nat × Nat) := [(6, 24), (7, 25), (8, 26), (9, 27), (20, 15), (21, 8), (22, 9), (23, 10), (24, 11), (25, 12), (26, 13), (27, 14), (40, 18), (41, 16), (42, 17), (60, 23), (61, 19), (62, 20), (63, 21), (64, 22), (30, 15), (31, 8), (32, 9), (33, 10), (34, 11), (35, 12), (36, 13), (37, 14), (50, 18), (51, 16), (52, 17), (70, 23), (71, 19), (72, 20), (73, 21), (74, 22)]
theorem cKb {B kt : Nat} (hH : zH η zkds D vwCl cy L Θ h H) (hP : cPb B h) (ht : Θ (B + 3) = some kt) (hk : 28 ≤ kt ∧ kt ≤ 31) : Θ (B + 4) = some (2 * (kt - 28) + 1) ∧ Θ (B + 5) = some (2 * (kt - 28)) ∧ ∀ p ∈ cKLb, Θ (B + p.1) = some p.2 := by
  have top : (Θ (B + 4) = some (2 * (kt - 28) + 1) ∧ Θ (B + 5) = some (2 * (kt - 28))) ∧ Θ (B + 6) = some 24 ∧ Θ (B + 7) = some 25 ∧ Θ (B + 8) = some 26 ∧ Θ (B + 9) = some 27 := by
    rcases (show kt = 28 ∨ kt = 29 ∨ kt = 30 ∨ kt = 31 by omega) with rfl | rfl | rfl | rfl
    · have k4 : Θ (B + 4) = some 1 := kst (B := 2147483647) (j := 0) hH ht (by decide) (by decide +kernel) (by decide +kernel) (hP.p (a := 3) (j := 0) (v := 4) (by decide))
      exact ⟨⟨k4, kst (B := 2147483647) (j := 0) hH k4 (by decide) (by decide +kernel) (by decide +kernel) (hP.p (a := 4) (j := 0) (v := 5) (by decide))⟩, kst (B := 2147483647) (j := 1) hH ht (by decide) (by decide +kernel) (by decide +kernel) (hP.p (a := 3) (j := 1) (v := 6) (by decide)), kst (B := 2147483647) (j := 2) hH ht (by decide) (by decide +kernel) (by decide +kernel) (hP.p (a := 3) (j := 2) (v := 7) (by decide)), kst (B := 2147483647) (j := 3) hH ht (by decide) (by decide +kernel) (by decide +kernel) (hP.p (a := 3) (j := 3) (v := 8) (by decide)), kst (B := 2147483647) (j := 4) hH ht (by decide) (by decide +kernel) (by decide +kernel) (hP.p (a := 3) (j := 4) (v := 9) (by decide))⟩
    · have k4 : Θ (B + 4) = some 3 := kst (B := 2147483647) (j := 0) hH ht (by decide) (by decide +kernel) (by decide +kernel) (hP.p (a := 3) (j := 0) (v := 4) (by decide))
      exact ⟨⟨k4, kst (B := 2147483647) (j := 0) hH k4 (by decide) (by decide +kernel) (by decide +kernel) (hP.p (a := 4) (j := 0) (v := 5) (by decide))⟩, kst (B := 2147483647) (j := 1) hH ht (by decide) (by decide +kernel) (by decide +kernel) (hP.p (a := 3) (j := 1) (v := 6) (by decide)), kst (B := 2147483647) (j := 2) hH ht (by decide) (by decide +kernel) (by decide +kernel) (hP.p (a := 3) (j := 2) (v := 7) (by decide)), kst (B := 2147483647) (j := 3) hH ht (by decide) (by decide +kernel) (by decide +kernel) (hP.p (a := 3) (j := 3) (v := 8) (by decide)), kst (B := 2147483647) (j := 4) hH ht (by decide) (by decide +kernel) (by decide +kernel) (hP.p (a := 3) (j := 4) (v := 9) (by decide))⟩
    · have k4 : Θ (B + 4) = some 5 := kst (B := 2147483647) (j := 0) hH ht (by decide) (by decide +kernel) (by decide +kernel) (hP.p (a := 3) (j := 0) (v := 4) (by decide))
      exact ⟨⟨k4, kst (B := 2147483647) (j := 0) hH k4 (by decide) (by decide +kernel) (by decide +kernel) (hP.p (a := 4) (j := 0) (v := 5) (by decide))⟩, kst (B := 2147483647) (j := 1) hH ht (by decide) (by decide +kernel) (by decide +kernel) (hP.p (a := 3) (j := 1) (v := 6) (by decide)), kst (B := 2147483647) (j := 2) hH ht (by decide) (by decide +kernel) (by decide +kernel) (hP.p (a := 3) (j := 2) (v := 7) (by decide)), kst (B := 2147483647) (j := 3) hH ht (by decide) (by decide +kernel) (by decide +kernel) (hP.p (a := 3) (j := 3) (v := 8) (by decide)), kst (B := 2147483647) (j := 4) hH ht (by decide) (by decide +kernel) (by decide +kernel) (hP.p (a := 3) (j := 4) (v := 9) (by decide))⟩
    · have k4 : Θ (B + 4) = some 7 := kst (B := 2147483647) (j := 0) hH ht (by decide) (by decide +kernel) (by decide +kernel) (hP.p (a := 3) (j := 0) (v := 4) (by decide))
      exact ⟨⟨k4, kst (B := 2147483647) (j := 0) hH k4 (by decide) (by decide +kernel) (by decide +kernel) (hP.p (a := 4) (j := 0) (v := 5) (by decide))⟩, kst (B := 2147483647) (j := 1) hH ht (by decide) (by decide +kernel) (by decide +kernel) (hP.p (a := 3) (j := 1) (v := 6) (by decide)), kst (B := 2147483647) (j := 2) hH ht (by decide) (by decide +kernel) (by decide +kernel) (hP.p (a := 3) (j := 2) (v := 7) (by decide)), kst (B := 2147483647) (j := 3) hH ht (by decide) (by decide +kernel) (by decide +kernel) (hP.p (a := 3) (j := 3) (v := 8) (by decide)), kst (B := 2147483647) (j := 4) hH ht (by decide) (by decide +kernel) (by decide +kernel) (hP.p (a := 3) (j := 4) (v := 9) (by decide))⟩
  obtain ⟨k45, k6, k7, k8, k9⟩ := top
  refine ⟨k45.1, k45.2, fun p hp => ?_⟩
  have k20 : Θ (B + 20) = some 15 := kst (B := 2147483647) (j := 0) hH k7 (by decide) (by decide +kernel) (by decide +kernel) (hP.p (a := 7) (j := 0) (v := 20) (by decide))
  have k21 : Θ (B + 21) = some 8 := kst (B := 2147483647) (j := 5) hH k20 (by decide) (by decide +kernel) (by decide +kernel) (hP.p (a := 20) (j := 5) (v := 21) (by decide))
  have k22 : Θ (B + 22) = some 9 := kst (B := 2147483647) (j := 7) hH k20 (by decide) (by decide +kernel) (by decide +kernel) (hP.p (a := 20) (j := 7) (v := 22) (by decide))
  have k23 : Θ (B + 23) = some 10 := kst (B := 2147483647) (j := 8) hH k20 (by decide) (by decide +kernel) (by decide +kernel) (hP.p (a := 20) (j := 8) (v := 23) (by decide))
  have k24 : Θ (B + 24) = some 11 := kst (B := 2147483647) (j := 9) hH k20 (by decide) (by decide +kernel) (by decide +kernel) (hP.p (a := 20) (j := 9) (v := 24) (by decide))
  have k25 : Θ (B + 25) = some 12 := kst (B := 2147483647) (j := 11) hH k20 (by decide) (by decide +kernel) (by decide +kernel) (hP.p (a := 20) (j := 11) (v := 25) (by decide))
  have k26 : Θ (B + 26) = some 13 := kst (B := 2147483647) (j := 12) hH k20 (by decide) (by decide +kernel) (by decide +kernel) (hP.p (a := 20) (j := 12) (v := 26) (by decide))
  have k27 : Θ (B + 27) = some 14 := kst (B := 2147483647) (j := 13) hH k20 (by decide) (by decide +kernel) (by decide +kernel) (hP.p (a := 20) (j := 13) (v := 27) (by decide))
  have k40 : Θ (B + 40) = some 18 := kst (B := 2147483647) (j := 0) hH k8 (by decide) (by decide +kernel) (by decide +kernel) (hP.p (a := 8) (j := 0) (v := 40) (by decide))
  have k41 : Θ (B + 41) = some 16 := kst (B := 2147483647) (j := 1) hH k40 (by decide) (by decide +kernel) (by decide +kernel) (hP.p (a := 40) (j := 1) (v := 41) (by decide))
  have k42 : Θ (B + 42) = some 17 := kst (B := 2147483647) (j := 2) hH k40 (by decide) (by decide +kernel) (by decide +kernel) (hP.p (a := 40) (j := 2) (v := 42) (by decide))
  have k60 : Θ (B + 60) = some 23 := kst (B := 2147483647) (j := 0) hH k9 (by decide) (by decide +kernel) (by decide +kernel) (hP.p (a := 9) (j := 0) (v := 60) (by decide))
  have k61 : Θ (B + 61) = some 19 := kst (B := 2147483647) (j := 1) hH k60 (by decide) (by decide +kernel) (by decide +kernel) (hP.p (a := 60) (j := 1) (v := 61) (by decide))
  have k62 : Θ (B + 62) = some 20 := kst (B := 2147483647) (j := 2) hH k60 (by decide) (by decide +kernel) (by decide +kernel) (hP.p (a := 60) (j := 2) (v := 62) (by decide))
  have k63 : Θ (B + 63) = some 21 := kst (B := 2147483647) (j := 4) hH k60 (by decide) (by decide +kernel) (by decide +kernel) (hP.p (a := 60) (j := 4) (v := 63) (by decide))
  have k64 : Θ (B + 64) = some 22 := kst (B := 2147483647) (j := 5) hH k60 (by decide) (by decide +kernel) (by decide +kernel) (hP.p (a := 60) (j := 5) (v := 64) (by decide))
  have k30 : Θ (B + 30) = some 15 := kst (B := 2147483647) (j := 1) hH k7 (by decide) (by decide +kernel) (by decide +kernel) (hP.p (a := 7) (j := 1) (v := 30) (by decide))
  have k31 : Θ (B + 31) = some 8 := kst (B := 2147483647) (j := 5) hH k30 (by decide) (by decide +kernel) (by decide +kernel) (hP.p (a := 30) (j := 5) (v := 31) (by decide))
  have k32 : Θ (B + 32) = some 9 := kst (B := 2147483647) (j := 7) hH k30 (by decide) (by decide +kernel) (by decide +kernel) (hP.p (a := 30) (j := 7) (v := 32) (by decide))
  have k33 : Θ (B + 33) = some 10 := kst (B := 2147483647) (j := 8) hH k30 (by decide) (by decide +kernel) (by decide +kernel) (hP.p (a := 30) (j := 8) (v := 33) (by decide))
  have k34 : Θ (B + 34) = some 11 := kst (B := 2147483647) (j := 9) hH k30 (by decide) (by decide +kernel) (by decide +kernel) (hP.p (a := 30) (j := 9) (v := 34) (by decide))
  have k35 : Θ (B + 35) = some 12 := kst (B := 2147483647) (j := 11) hH k30 (by decide) (by decide +kernel) (by decide +kernel) (hP.p (a := 30) (j := 11) (v := 35) (by decide))
  have k36 : Θ (B + 36) = some 13 := kst (B := 2147483647) (j := 12) hH k30 (by decide) (by decide +kernel) (by decide +kernel) (hP.p (a := 30) (j := 12) (v := 36) (by decide))
  have k37 : Θ (B + 37) = some 14 := kst (B := 2147483647) (j := 13) hH k30 (by decide) (by decide +kernel) (by decide +kernel) (hP.p (a := 30) (j := 13) (v := 37) (by decide))
  have k50 : Θ (B + 50) = some 18 := kst (B := 2147483647) (j := 1) hH k8 (by decide) (by decide +kernel) (by decide +kernel) (hP.p (a := 8) (j := 1) (v := 50) (by decide))
  have k51 : Θ (B + 51) = some 16 := kst (B := 2147483647) (j := 1) hH k50 (by decide) (by decide +kernel) (by decide +kernel) (hP.p (a := 50) (j := 1) (v := 51) (by decide))
  have k52 : Θ (B + 52) = some 17 := kst (B := 2147483647) (j := 2) hH k50 (by decide) (by decide +kernel) (by decide +kernel) (hP.p (a := 50) (j := 2) (v := 52) (by decide))
  have k70 : Θ (B + 70) = some 23 := kst (B := 2147483647) (j := 1) hH k9 (by decide) (by decide +kernel) (by decide +kernel) (hP.p (a := 9) (j := 1) (v := 70) (by decide))
  have k71 : Θ (B + 71) = some 19 := kst (B := 2147483647) (j := 1) hH k70 (by decide) (by decide +kernel) (by decide +kernel) (hP.p (a := 70) (j := 1) (v := 71) (by decide))
  have k72 : Θ (B + 72) = some 20 := kst (B := 2147483647) (j := 2) hH k70 (by decide) (by decide +kernel) (by decide +kernel) (hP.p (a := 70) (j := 2) (v := 72) (by decide))
  have k73 : Θ (B + 73) = some 21 := kst (B := 2147483647) (j := 4) hH k70 (by decide) (by decide +kernel) (by decide +kernel) (hP.p (a := 70) (j := 4) (v := 73) (by decide))
  have k74 : Θ (B + 74) = some 22 := kst (B := 2147483647) (j := 5) hH k70 (by decide) (by decide +kernel) (by decide +kernel) (hP.p (a := 70) (j := 5) (v := 74) (by decide))
  simp only [cKLb, List.mem_cons, List.not_mem_nil, or_false] at hp
  rcases hp with rfl | rfl | rfl | rfl | rfl | rfl | rfl | rfl | rfl | rfl | rfl | rfl | rfl | rfl | rfl | rfl | rfl | rfl | rfl | rfl | rfl | rfl | rfl | rfl | rfl | rfl | rfl | rfl | rfl | rfl | rfl | rfl | rfl | rfl | rfl | rfl
  · exact k6
  · exact k7
  · exact k8
  · exact k9
  · exact k20
  · exact k21
  · exact k22
  · exact k23
  · exact k24
  · exact k25
  · exact k26
  · exact k27
  · exact k40
  · exact k41
  · exact k42
  · exact k60
  · exact k61
  · exact k62
  · exact k63
  · exact k64
  · exact k30
  · exact k31
  · exact k32
  · exact k33
  · exact k34
  · exact k35
  · exact k36
  · exact k37
  · exact k50
  · exact k51
  · exact k52
  · exact k70
  · exact k71
  · exact k72
  · exact k73
  · exact k74
theorem cBb_of {B kt : Nat} (hH : zH η zkds D vwCl cy L Θ h H) (hP : cPb B h) (ht : Θ (B + 3) = some kt) (hk : 28 ≤ kt ∧ kt ≤ 31) : cBb B h := by
  obtain ⟨k4, -, kl⟩ := cKb hH hP ht hk
  refine ⟨?_, fun i hi => ?_, fun i hi => ?_, fun i hi => ?_⟩
  · rcases (show kt = 28 ∨ kt = 29 ∨ kt = 30 ∨ kt = 31 by omega) with rfl | rfl | rfl | rfl
    · exact knm hH k4 (by decide) (by decide +kernel) (by decide +kernel)
    · exact knm hH k4 (by decide) (by decide +kernel) (by decide +kernel)
    · exact knm hH k4 (by decide) (by decide +kernel) (by decide +kernel)
    · exact knm hH k4 (by decide) (by decide +kernel) (by decide +kernel)
  · have k : Θ (B + 20 + 10 * i) = some 15 := by
      rcases (show i = 0 ∨ i = 1 by omega) with rfl | rfl
      · exact kl (20, 15) (by decide)
      · exact kl (30, 15) (by decide)
    exact ⟨knm hH k (by decide) (by decide +kernel) (by decide +kernel), knm hH k (by decide) (by decide +kernel) (by decide +kernel), knm hH k (by decide) (by decide +kernel) (by decide +kernel), knm hH k (by decide) (by decide +kernel) (by decide +kernel), knm hH k (by decide) (by decide +kernel) (by decide +kernel)⟩
  · have k : Θ (B + 40 + 10 * i) = some 18 := by
      rcases (show i = 0 ∨ i = 1 by omega) with rfl | rfl
      · exact kl (40, 18) (by decide)
      · exact kl (50, 18) (by decide)
    exact knm hH k (by decide) (by decide +kernel) (by decide +kernel)
  · have k : Θ (B + 60 + 10 * i) = some 23 := by
      rcases (show i = 0 ∨ i = 1 by omega) with rfl | rfl
      · exact kl (60, 23) (by decide)
      · exact kl (70, 23) (by decide)
    exact ⟨knm hH k (by decide) (by decide +kernel) (by decide +kernel), knm hH k (by decide) (by decide +kernel) (by decide +kernel)⟩
theorem ef_no {eff : List (Nat × Nat × Nat)} {ks : List Nat} {k j : Nat} (h : eff.all (fun e => !(ks.contains e.1)) = true) (hk : ks.contains k = true) : zinE eff k j j = false := by
  unfold zinE
  rw [List.any_eq_false]
  intro e he hc
  simp only [Bool.and_eq_true, decide_eq_true_eq] at hc
  have := List.all_eq_true.mp h e he
  rw [hc.1.1, hk] at this
  cases this
theorem cK_im {F : Prop} {k : Nat} {g : yH} (hH : zH η zkds D vwCl cy L Θ h H) (h1 : Θ 1 = some 63) (hP : cP h) (hk : k < 3) (h2 : h 2 k = ((1000 * (k + 1) + 3 : Nat) : Int)) : Θ (1000 * (k + 1) + 3) = some (29 + k) := by
  have k2 : Θ 2 = some 62 := kst (B := 2147483647) (j := 1) hH h1 (by decide) (by decide +kernel) (by decide +kernel) (hP.p (a := 1) (j := 1) (v := 2) (by decide))
  have key : h 2 k = -1 ∨ (0 ≤ h 2 k ∧ Θ (h 2 k).toNat = some (29 + k)) := by
    rcases (show k = 0 ∨ k = 1 ∨ k = 2 by omega) with rfl | rfl | rfl
    · exact z_ptrn (A := -1) (B := 2147483647) hH k2 (zkK ⟨62, by decide⟩) (by decide +kernel) (by decide +kernel)
    · exact z_ptrn (A := -1) (B := 2147483647) hH k2 (zkK ⟨62, by decide⟩) (by decide +kernel) (by decide +kernel)
    · exact z_ptrn (A := -1) (B := 2147483647) hH k2 (zkK ⟨62, by decide⟩) (by decide +kernel) (by decide +kernel)
  rcases key with w | ⟨-, w⟩
  · rw [h2] at w
    omega
  · rw [h2, Int.toNat_natCast] at w
    exact w
theorem cK_0 (hH : zH η zkds D vwCl cy L Θ h H) (h1 : Θ 1 = some 63) (hP : cP h) : Θ 2 = some 62 ∧ Θ (0 + 3) = some 28 ∧ Θ 80 = some 34 ∧ Θ 90 = some 15 ∧ Θ 100 = some 18 ∧ Θ 110 = some 23 := by
  have k80 : Θ 80 = some 34 := kst (B := 2147483647) (j := 2) hH h1 (by decide) (by decide +kernel) (by decide +kernel) (hP.p (a := 1) (j := 2) (v := 80) (by decide))
  exact ⟨kst (B := 2147483647) (j := 1) hH h1 (by decide) (by decide +kernel) (by decide +kernel) (hP.p (a := 1) (j := 1) (v := 2) (by decide)), kst (B := 2147483647) (j := 0) hH h1 (by decide) (by decide +kernel) (by decide +kernel) (hP.p (a := 1) (j := 0) (v := 3) (by decide)), k80, kst (B := 2147483647) (j := 0) hH k80 (by decide) (by decide +kernel) (by decide +kernel) (hP.p (a := 80) (j := 0) (v := 90) (by decide)), kst (B := 2147483647) (j := 1) hH k80 (by decide) (by decide +kernel) (by decide +kernel) (hP.p (a := 80) (j := 1) (v := 100) (by decide)), kst (B := 2147483647) (j := 2) hH k80 (by decide) (by decide +kernel) (by decide +kernel) (hP.p (a := 80) (j := 2) (v := 110) (by decide))⟩
/-- the length of the tape, of the images, the numbers told -/
theorem cT_b {F : Prop} {g : yH} (hH : zH η zkds D vwCl cy L Θ h H) (h1 : Θ 1 = some 63) (R : RR F h g) : cBb 0 h ∧ (0 ≤ h 4 1 ∧ h 4 1 ≤ 600) ∧ lnI h ∧ ∀ k, k < 3 → h 2 k ≠ -1 → cBb (1000 * (k + 1)) h ∧ cPb (1000 * (k + 1)) h := by
  obtain ⟨hP, -, -, RI0⟩ := R
  obtain ⟨-, k3, -⟩ := cK_0 hH h1 hP
  have b0 := cBb_of hH hP.b k3 (by omega)
  have im : ∀ k, k < 3 → h 2 k ≠ -1 → cBb (1000 * (k + 1)) h ∧ cPb (1000 * (k + 1)) h := fun k hk w => by
    rcases RI0 k hk with q | ⟨-, q2, q3, -⟩
    · exact absurd q.2 w
    · exact ⟨cBb_of hH q3 (cK_im (F := F) (g := g) hH h1 hP hk q2) (by omega), q3⟩
  refine ⟨b0, b0.1, fun k hk => ?_, im⟩
  by_cases w : h 2 k = -1
  · exact Or.inr w
  · exact Or.inl ((im k hk w).1.1).2
end KND
section KNR
variable {D : va_G} {cy : Nat → ClassId} {M : List Nat} {Ξ : Nat → Option Nat} {g g' : Nat → Nat → Int} {H : Heap}
theorem zkR : ∀ k : Fin 36, zkdm[k.1]? = some (zkdm.getD k.1 (0, 0, 0, [])) := fun k => by
  rw [List.getD_eq_getElem?_getD, List.getElem?_eq_getElem (show k.1 < zkdm.length from k.2)]
  rfl
/-- the reference's names are its kinds -/
def nmR (Ξ : Nat → Option Nat) : Prop := Ξ 35 = some 35 ∧ ∀ a k, Ξ a = some k → a = k
theorem rst {j t : Nat} {B : Int} (hG : zH ζ zkdm D vwCl cy M Ξ g H) (hN : nmR Ξ) (hj : j < (zkdm.getD 35 (0, 0, 0, [])).2.2.1) (ht : zty (zkdm.getD 35 (0, 0, 0, [])) j = (t + 2, 0, B)) : g 35 j = (t : Int) ∧ Ξ t = some t := by
  obtain ⟨w1, w2⟩ := z_ptr hG hN.1 (zkR ⟨35, by decide⟩) hj ht
  have := hN.2 _ _ w2
  rw [this] at w2
  exact ⟨by omega, w2⟩
theorem rP_of (hG : zH ζ zkdm D vwCl cy M Ξ g H) (hN : nmR Ξ) : rP g ∧ g 35 63 = 34 ∧ (∀ a, a ≤ 7 → Ξ a = some a) ∧ Ξ 34 = some 34 := by
  have r1 := rst (j := 1) (t := 0) (B := 2147483647) hG hN (by decide +kernel) (by decide +kernel)
  have r2 := rst (j := 2) (t := 1) (B := 2147483647) hG hN (by decide +kernel) (by decide +kernel)
  have r3 := rst (j := 3) (t := 2) (B := 2147483647) hG hN (by decide +kernel) (by decide +kernel)
  have r4 := rst (j := 4) (t := 3) (B := 2147483647) hG hN (by decide +kernel) (by decide +kernel)
  have r5 := rst (j := 5) (t := 4) (B := 2147483647) hG hN (by decide +kernel) (by decide +kernel)
  have r6 := rst (j := 6) (t := 5) (B := 2147483647) hG hN (by decide +kernel) (by decide +kernel)
  have r7 := rst (j := 7) (t := 6) (B := 2147483647) hG hN (by decide +kernel) (by decide +kernel)
  have r8 := rst (j := 8) (t := 7) (B := 2147483647) hG hN (by decide +kernel) (by decide +kernel)
  have r18 := rst (j := 18) (t := 8) (B := 2147483647) hG hN (by decide +kernel) (by decide +kernel)
  have r19 := rst (j := 19) (t := 9) (B := 2147483647) hG hN (by decide +kernel) (by decide +kernel)
  have r63 := rst (j := 63) (t := 34) (B := 2147483647) hG hN (by decide +kernel) (by decide +kernel)
  refine ⟨⟨r1.1, r2.1, r3.1, r4.1, r5.1, r6.1, r7.1, r8.1, r18.1, r19.1⟩, r63.1, fun a ha => ?_, r63.2⟩
  rcases (show a = 0 ∨ a = 1 ∨ a = 2 ∨ a = 3 ∨ a = 4 ∨ a = 5 ∨ a = 6 ∨ a = 7 by omega) with rfl | rfl | rfl | rfl | rfl | rfl | rfl | rfl
  · exact r1.2
  · exact r2.2
  · exact r3.2
  · exact r4.2
  · exact r5.2
  · exact r6.2
  · exact r7.2
  · exact r8.2
theorem rBd_of (hG : zH ζ zkdm D vwCl cy M Ξ g H) (hN : nmR Ξ) : rBd g ∧ (0 ≤ g 1 0 ∧ g 1 0 ≤ 600) ∧ ∀ j, j < 12 → 0 ≤ g 4 j ∧ g 4 j ≤ 2 := by
  obtain ⟨-, -, k, -⟩ := rP_of hG hN
  have b : rBd g := fun a ha j hj => (zH_in hG (k a ha) (zkR ⟨a, by omega⟩) hj).2
  refine ⟨b, ?_, fun j hj => ?_⟩
  · have := b 1 (by decide) 0 (by decide +kernel)
    rw [zty_r1 ⟨0, by decide⟩] at this
    exact this
  · have := b 4 (by decide) j (by show j < 12; exact hj)
    rw [zty_r4 ⟨j, hj⟩] at this
    exact this
def efR (eff : List (Nat × Nat × Nat)) : Bool := eff.all (fun e => !([0, 1, 2, 3, 4, 5, 6, 7, 34].contains e.1))
/-- a call of the reference that leaves what is told -/
theorem RR.rf {F : Prop} {h : yH} {eff : List (Nat × Nat × Nat)} (hG : zH ζ zkdm D vwCl cy M Ξ g H) (hN : nmR Ξ) (oX : ∀ a k j, Ξ a = some k → zinE eff k j j = false → g' a j = g a j) (he : efR eff = true) (gP : rP g') (hL : lnI h) (hm : h 4 1 ≤ 600) (R : RR F h g) : RR F h g' := by
  obtain ⟨-, -, k, k34⟩ := rP_of hG hN
  have e : ∀ a j, a ≤ 7 → g' a j = g a j := fun a j ha => oX _ _ _ (k a ha) (ef_no he (by
    rcases (show a = 0 ∨ a = 1 ∨ a = 2 ∨ a = 3 ∨ a = 4 ∨ a = 5 ∨ a = 6 ∨ a = 7 by omega) with rfl | rfl | rfl | rfl | rfl | rfl | rfl | rfl <;> decide))
  have e34 : ∀ j, g' 34 j = g 34 j := fun j => oX _ _ _ k34 (ef_no he (by decide))
  obtain ⟨hP, -, R0, RI0⟩ := R
  exact ⟨hP, gP, R0.fr (fun _ _ _ _ => rfl) (fun j _ _ => e 0 j (by omega)) ⟨e 1 _ (by omega), e 2 _ (by omega), e 3 _ (by omega)⟩ (fun j _ _ => e 4 j (by omega)) (fun j _ _ => e 5 j (by omega)) (fun j _ _ => e 6 j (by omega)) (fun j _ _ => e 7 j (by omega)) hm, RI0.fr hL (fun _ _ _ => rfl) (fun _ => rfl) e34 (fun j _ => e 0 j (by omega)) (fun a j w _ => e a j (by omega)) (fun j _ => e 4 j (by omega)) (fun j _ => e 5 j (by omega)) (fun j _ => e 6 j (by omega)) (fun j _ => e 7 j (by omega))⟩
theorem RW.rf {F : Prop} {h : yH} {eff : List (Nat × Nat × Nat)} (hG : zH ζ zkdm D vwCl cy M Ξ g H) (hN : nmR Ξ) (oX : ∀ a k j, Ξ a = some k → zinE eff k j j = false → g' a j = g a j) (he : efR eff = true) (gP : rP g') (hL : lnI h) (hm : h 4 1 ≤ 600) (R : RW F h g) : RW F h g' := by
  obtain ⟨-, -, k, -⟩ := rP_of hG hN
  refine ⟨RR.rf hG hN oX he gP hL hm R.1, fun f => (R.2 f).r (fun a j _ ha => oX _ _ _ (k a ha) (ef_no he (by
    rcases (show a = 0 ∨ a = 1 ∨ a = 2 ∨ a = 3 ∨ a = 4 ∨ a = 5 ∨ a = 6 ∨ a = 7 by omega) with rfl | rfl | rfl | rfl | rfl | rfl | rfl | rfl <;> decide)))⟩
end KNR
end
section
/-! what feed, end, text leave of the images' array; an image made -/
theorem some_inj {a b : Int} {h g : yH} (e : (some (a, h) : yO) = some (b, g)) : a = b ∧ h = g := by
  have := Option.some.inj e
  exact ⟨congrArg Prod.fst this, congrArg Prod.snd this⟩
theorem fr2_feed {n : Nat} {x1 x2 x3 x4 x5 v : Int} {h h2 : yH} (hn : 6 ≤ n) (hP : cP h) (hm : 0 ≤ h 4 1 ∧ h 4 1 ≤ 600) (e : f_X11_feed n [1, x1, x2, x3, x4, x5] h = some (v, h2)) : ∀ k, h2 2 k = h 2 k := by
  intro k
  obtain ⟨N, eN⟩ : ∃ N : Nat, h 4 1 = (N : Int) := ⟨(h 4 1).toNat, by omega⟩
  obtain ⟨v', h', e', -, r⟩ := feedC_r (n := n) (x1 := x1) (x2 := x2) (x3 := x3) (x4 := x4) (x5 := x5) hn hP eN (by omega)
  obtain ⟨-, rfl⟩ := some_inj (e.symm.trans e')
  rcases r with ⟨-, -, r⟩ | ⟨-, -, -, r⟩
  · rw [r]
  · rw [r 2 k (by omega), if_neg (by omega)]
theorem fr2_end {n : Nat} {x v : Int} {h h2 : yH} (hP : cP h) (hm : 0 ≤ h 4 1 ∧ h 4 1 ≤ 600) (e : f_X11_end n [1, x] h = some (v, h2)) : ∀ k, h2 2 k = h 2 k := by
  intro k
  obtain ⟨v', h', e', r⟩ := endC_r (n := n) (x := x) hP hm
  obtain ⟨-, rfl⟩ := some_inj (e.symm.trans e')
  rcases r with ⟨-, -, r⟩ | ⟨-, -, r⟩
  · rw [r]
  · rw [r, zup_ne (by omega)]
theorem fr2_text {n : Nat} {sort at_ v : Int} {h h2 : yH} (hn : 2800 ≤ n) (hP : cP h) (hm : 0 ≤ h 4 1 ∧ h 4 1 ≤ 600) (h6 : ∀ j, j < 3 → 0 ≤ h 6 j ∧ h 6 j ≤ 2) (e : f_X11_text n [1, sort, at_] h = some (v, h2)) : ∀ k, h2 2 k = h 2 k := by
  intro k
  obtain ⟨v', h', e', r⟩ := textC_e (u := fun i => yari 7 (h 5 i) 255) (N := (h 4 1).toNat) (n := n) (sort := sort) (at_ := at_) (t0 := tI sort.toNat) hn ⟨by omega, by omega, fun _ _ => rfl, hP⟩ h6 (fun _ _ => rfl)
  obtain ⟨-, rfl⟩ := some_inj (e.symm.trans e')
  exact r.2.2.1 2 k (by omega) (by omega) (by omega)
theorem RX_of {F : Prop} {k : Nat} {h h' g : yH} (hk : k < 3) (R : RR F h g) (hL : lnI h) (hm : h 4 1 ≤ 600) (I : (∀ a j, ¬ (1000 * (k + 1) ≤ a ∧ a < 1000 * (k + 2)) → ¬ (a = 2 ∧ j = k) → h' a j = h a j) ∧ h' 2 k = ((1000 * (k + 1) + 3 : Nat) : Int) ∧ cPb (1000 * (k + 1)) h' ∧ h' (1000 * (k + 1) + 4) 1 ≤ 600) : RX F k h' g ∧ lnI h' ∧ h' 4 1 ≤ 600 := by
  obtain ⟨f, i2, ip, il⟩ := I
  obtain ⟨hP, gP, R0, RI0⟩ := R
  have low : ∀ a j, a < 1000 → a ≠ 2 → h' a j = h a j := fun a j w1 w2 => f a j (by omega) (by omega)
  refine ⟨⟨hP.fr (fun a j w => ?_), gP, R0.fr (fun a j w1 w2 => low a j (by omega) (by omega)) (fun _ _ _ => rfl) ⟨rfl, rfl, rfl⟩ (fun _ _ _ => rfl) (fun _ _ _ => rfl) (fun _ _ _ => rfl) (fun _ _ _ => rfl) hm, fun i hi hik => ?_, i2, ip⟩, fun i hi => ?_, by rw [low 4 1 (by omega) (by omega)]; exact hm⟩
  · obtain ⟨p, hp, e⟩ := List.any_eq_true.mp w
    have e1 : p.1 = a ∧ p.2.1 = j := by simpa using e
    have : ∀ p ∈ cPL, p.1 ≤ 200 ∧ p.1 ≠ 2 := by decide +kernel
    have := this p hp
    exact low a j (by omega) (by omega)
  · rw [f 2 i (by omega) (by omega)]
    rcases RI0 i hi with q | ⟨q1, q2, q3, q4⟩
    · exact Or.inl q
    · have li : h (1000 * (i + 1) + 4) 1 ≤ 600 := by
        rcases hL i hi with q | q
        · exact q
        · rw [q] at q2
          omega
      exact Or.inr ⟨q1, q2, q3.fr (fun p hp => f _ _ (by have := cPLb_b p hp; omega) (by omega)), q4.fr (fun a j w1 w2 => f a j (by omega) (by omega)) (fun _ _ _ => rfl) ⟨rfl, rfl, rfl⟩ (fun _ _ _ => rfl) (fun _ _ _ => rfl) (fun _ _ _ => rfl) (fun _ _ _ => rfl) li⟩
  · by_cases hik : i = k
    · rw [hik]
      exact Or.inl il
    · rw [f 2 i (by omega) (by omega), f (1000 * (i + 1) + 4) 1 (by omega) (by omega)]
      exact hL i hi
end
section
/-! count and fault tell the same -/
theorem RR_count {F : Prop} {m n : Nat} {x : Int} {h g : yH} (R : RR F h g) (hL : lnI h) (hm : h 4 1 ≤ 600) : ∃ v h2 g2, f_X11_count n [1, x] h = some (v, h2) ∧ f_X12_count m [35, x] g = some (v, g2) ∧ RR F h2 g2 ∧ ∀ a j, h2 a j = h a j := by
  have hP := R.1
  have gP := R.2.1
  have e1 : f_X11_count n [1, x] h = _ := e_X11_count
  have e2 : f_X12_count m [35, x] g = _ := e_X12_count
  by_cases w : 0 ≤ x ∧ x ≤ 2
  · rw [if_neg (by omega), if_pos (by omega), xg_pos (hP.p (by decide)), xg_pos (hP.p (by decide)), xg_pos (by omega)] at e1
    rw [in_t w, xb_some, if_neg (by decide), xg_pos (by rw [zup_ne (by omega)]; exact gP.2.2.2.2.1), xg_pos (by omega), zup_ne (by omega)] at e2
    have := R.2.2.1.2.2.1 x.toNat (by omega)
    rw [show 0 + 6 = 6 from rfl, show 3 * 0 + x.toNat = x.toNat by omega] at this
    rw [← this] at e2
    exact ⟨_, _, _, e1, e2, R.c0 hL hm, fun _ _ => rfl⟩
  · rw [in_f w, xb_some, if_pos rfl] at e2
    by_cases w2 : x < 0
    · rw [if_pos w2] at e1
      exact ⟨_, _, _, e1, e2, R.c0 hL hm, fun _ _ => rfl⟩
    · rw [if_neg w2, if_neg (by omega)] at e1
      exact ⟨_, _, _, e1, e2, R.c0 hL hm, fun _ _ => rfl⟩
theorem RR_fault {F : Prop} {m n : Nat} {x : Int} {h g : yH} (R : RR F h g) (hL : lnI h) (hm : h 4 1 ≤ 600) : ∃ v h2 g2, f_X11_fault n [1, x] h = some (v, h2) ∧ f_X12_fault m [35, x] g = some (v, g2) ∧ RR F h2 g2 ∧ ∀ a j, h2 a j = h a j := by
  have hP := R.1
  have gP := R.2.1
  have e1 : f_X11_fault n [1, x] h = _ := e_X11_fault
  have e2 : f_X12_fault m [35, x] g = _ := e_X12_fault
  by_cases w : x = 0
  · rw [if_pos w, xg_pos (hP.p (by decide))] at e1
    rw [if_pos w, xg_pos gP.2.2.1, ← show h 3 5 = g 2 0 from R.2.2.1.2.2.2.1] at e2
    exact ⟨_, _, _, e1, e2, R.c0 hL hm, fun _ _ => rfl⟩
  · by_cases w2 : x = 1
    · rw [if_neg w, if_pos w2, xg_pos (hP.p (by decide))] at e1
      rw [if_neg w, if_pos w2, xg_pos gP.2.2.2.1, ← show h 3 6 = g 3 0 from R.2.2.1.2.2.2.2.1] at e2
      exact ⟨_, _, _, e1, e2, R.c0 hL hm, fun _ _ => rfl⟩
    · rw [if_neg w, if_neg w2] at e1 e2
      exact ⟨_, _, _, e1, e2, R.c0 hL hm, fun _ _ => rfl⟩
end
section
/-! all pointers of the Model -/
section KNQ
variable {ζ : zRn} {D : va_G} {cy : Nat → ClassId} {M : List Nat} {Ξ : Nat → Option Nat} {g : Nat → Nat → Int} {H : Heap}
theorem rQ_of (hG : zH ζ zkdm D vwCl cy M Ξ g H) (hN : nmR Ξ) : rQ g := by
  have r1 := (rst (j := 1) (t := 0) (B := 2147483647) hG hN (by decide +kernel) (by decide +kernel)).1
  have r2 := (rst (j := 2) (t := 1) (B := 2147483647) hG hN (by decide +kernel) (by decide +kernel)).1
  have r3 := (rst (j := 3) (t := 2) (B := 2147483647) hG hN (by decide +kernel) (by decide +kernel)).1
  have r4 := (rst (j := 4) (t := 3) (B := 2147483647) hG hN (by decide +kernel) (by decide +kernel)).1
  have r5 := (rst (j := 5) (t := 4) (B := 2147483647) hG hN (by decide +kernel) (by decide +kernel)).1
  have r6 := (rst (j := 6) (t := 5) (B := 2147483647) hG hN (by decide +kernel) (by decide +kernel)).1
  have r7 := (rst (j := 7) (t := 6) (B := 2147483647) hG hN (by decide +kernel) (by decide +kernel)).1
  have r8 := (rst (j := 8) (t := 7) (B := 2147483647) hG hN (by decide +kernel) (by decide +kernel)).1
  have r18 := (rst (j := 18) (t := 8) (B := 2147483647) hG hN (by decide +kernel) (by decide +kernel)).1
  have r19 := (rst (j := 19) (t := 9) (B := 2147483647) hG hN (by decide +kernel) (by decide +kernel)).1
  have r30 := (rst (j := 30) (t := 10) (B := 2147483647) hG hN (by decide +kernel) (by decide +kernel)).1
  have r31 := (rst (j := 31) (t := 11) (B := 2147483647) hG hN (by decide +kernel) (by decide +kernel)).1
  have r32 := (rst (j := 32) (t := 12) (B := 2147483647) hG hN (by decide +kernel) (by decide +kernel)).1
  have r36 := (rst (j := 36) (t := 13) (B := 2147483647) hG hN (by decide +kernel) (by decide +kernel)).1
  have r37 := (rst (j := 37) (t := 14) (B := 2147483647) hG hN (by decide +kernel) (by decide +kernel)).1
  have r38 := (rst (j := 38) (t := 15) (B := 2147483647) hG hN (by decide +kernel) (by decide +kernel)).1
  have r39 := (rst (j := 39) (t := 20) (B := 2147483647) hG hN (by decide +kernel) (by decide +kernel)).1
  have r40 := (rst (j := 40) (t := 19) (B := 2147483647) hG hN (by decide +kernel) (by decide +kernel)).1
  have r41 := (rst (j := 41) (t := 16) (B := 2147483647) hG hN (by decide +kernel) (by decide +kernel)).1
  have r42 := (rst (j := 42) (t := 17) (B := 2147483647) hG hN (by decide +kernel) (by decide +kernel)).1
  have r43 := (rst (j := 43) (t := 18) (B := 2147483647) hG hN (by decide +kernel) (by decide +kernel)).1
  have r44 := (rst (j := 44) (t := 21) (B := 2147483647) hG hN (by decide +kernel) (by decide +kernel)).1
  have r45 := (rst (j := 45) (t := 22) (B := 2147483647) hG hN (by decide +kernel) (by decide +kernel)).1
  have r46 := (rst (j := 46) (t := 23) (B := 2147483647) hG hN (by decide +kernel) (by decide +kernel)).1
  have r47 := (rst (j := 47) (t := 24) (B := 2147483647) hG hN (by decide +kernel) (by decide +kernel)).1
  have r48 := (rst (j := 48) (t := 25) (B := 2147483647) hG hN (by decide +kernel) (by decide +kernel)).1
  have r52 := (rst (j := 52) (t := 27) (B := 2147483647) hG hN (by decide +kernel) (by decide +kernel)).1
  have r53 := (rst (j := 53) (t := 28) (B := 2147483647) hG hN (by decide +kernel) (by decide +kernel)).1
  have r54 := (rst (j := 54) (t := 26) (B := 2147483647) hG hN (by decide +kernel) (by decide +kernel)).1
  have r58 := (rst (j := 58) (t := 29) (B := 2147483647) hG hN (by decide +kernel) (by decide +kernel)).1
  have r59 := (rst (j := 59) (t := 30) (B := 2147483647) hG hN (by decide +kernel) (by decide +kernel)).1
  have r60 := (rst (j := 60) (t := 31) (B := 2147483647) hG hN (by decide +kernel) (by decide +kernel)).1
  have r61 := (rst (j := 61) (t := 32) (B := 2147483647) hG hN (by decide +kernel) (by decide +kernel)).1
  have r62 := (rst (j := 62) (t := 33) (B := 2147483647) hG hN (by decide +kernel) (by decide +kernel)).1
  have r63 := (rst (j := 63) (t := 34) (B := 2147483647) hG hN (by decide +kernel) (by decide +kernel)).1
  intro p hp
  simp only [rQL, List.mem_cons, List.not_mem_nil, or_false] at hp
  rcases hp with rfl | rfl | rfl | rfl | rfl | rfl | rfl | rfl | rfl | rfl | rfl | rfl | rfl | rfl | rfl | rfl | rfl | rfl | rfl | rfl | rfl | rfl | rfl | rfl | rfl | rfl | rfl | rfl | rfl | rfl | rfl | rfl | rfl | rfl | rfl
  · exact r1
  · exact r2
  · exact r3
  · exact r4
  · exact r5
  · exact r6
  · exact r7
  · exact r8
  · exact r18
  · exact r19
  · exact r30
  · exact r31
  · exact r32
  · exact r36
  · exact r37
  · exact r38
  · exact r39
  · exact r40
  · exact r41
  · exact r42
  · exact r43
  · exact r44
  · exact r45
  · exact r46
  · exact r47
  · exact r48
  · exact r52
  · exact r53
  · exact r54
  · exact r58
  · exact r59
  · exact r60
  · exact r61
  · exact r62
  · exact r63
end KNQ
end
section
/-! what the start gives of statics and Strings -/
def lwG : Cond := Jvm.Cond.and given_1 narrow_1
def zTm15 (i : Nat) : Term := .string RX4 (zSi.getD i 0)
def lwpa : List Nat := [5, 17, 35, 113]
def lwpn : List Nat := [6, 18, 36, 114]
def lwpe0 : List Nat := [7, 8, 9, 10]
def lwpe1 : List Nat := [19, 20, 21, 22, 23, 24, 25, 26, 27, 28, 29, 30, 31, 32, 33]
def lwpe2 : List Nat := [37, 38, 39, 40, 41, 42, 43, 44, 45, 46, 47, 48, 49, 50, 51, 52, 53, 54, 55, 56, 57, 58, 59, 60, 61, 62, 63, 64, 65, 66, 67, 68, 69, 70, 71, 72, 73, 74, 75, 76, 77, 78, 79, 80, 81, 82, 83, 84, 85, 86, 87, 88, 89, 90, 91, 92, 93, 94, 95, 96, 97, 98, 99, 100, 101, 102, 103, 104, 105, 106, 107, 108, 109, 110, 111]
def lwpe3 : List Nat := [115, 116, 117, 118, 119, 120, 121, 122, 123, 124, 125, 126, 127, 128, 129, 130, 131, 132, 133, 134, 135, 136, 137, 138, 139, 140, 141, 142, 143, 144, 145, 146, 147, 148, 149, 150, 151, 152, 153, 154, 155, 156, 157, 158, 159, 160, 161, 162, 163, 164, 165, 166, 167, 168, 169, 170, 171, 172, 173, 174, 175, 176, 177, 178, 179, 180, 181, 182, 183, 184, 185, 186, 187, 188, 189]
def lwpe (i : Nat) : List Nat := [lwpe0, lwpe1, lwpe2, lwpe3].getD i []
def lwps : List (List Nat) := [[242, 243, 244, 245], [250, 251, 252, 253], [259, 260, 261, 262], [269, 270, 271, 272], [281, 282, 283, 284], [294, 295, 296, 297], [307, 308, 309, 310], [321, 322, 323, 324], [335, 336, 337, 338], [352, 353, 354, 355], [368, 369, 370, 371], [387, 388, 389, 390], [405, 406, 407, 408], [425, 426, 427, 428], [446, 447, 448, 449]]
def lwpt : List (List Nat) := [[246, 247, 248, 249], [254, 255, 256, 257], [263, 264, 265, 266], [273, 274, 275, 276, 277], [285, 286, 287, 288, 289], [298, 299, 300, 301], [311, 312, 313, 314], [325, 326, 327], [339, 340, 341, 342, 343], [356, 357, 358], [372, 373, 374, 375, 376], [391, 392, 393], [409, 410, 411, 412], [429, 430, 431, 432], [450, 451, 452, 453, 454]]
def lwpq : List (List Nat) := [[0, 258, 267, 278, 290, 302, 315, 328, 344, 359, 377, 394, 413, 433, 455], [0, 0, 268, 279, 291, 303, 316, 329, 345, 360, 378, 395, 414, 434, 456], [0, 0, 0, 280, 292, 304, 317, 330, 346, 361, 379, 396, 415, 435, 457], [0, 0, 0, 0, 293, 305, 318, 331, 347, 362, 380, 397, 416, 436, 458], [0, 0, 0, 0, 0, 306, 319, 332, 348, 363, 381, 398, 417, 437, 459], [0, 0, 0, 0, 0, 0, 320, 333, 349, 364, 382, 399, 418, 438, 460], [0, 0, 0, 0, 0, 0, 0, 334, 350, 365, 383, 400, 419, 439, 461], [0, 0, 0, 0, 0, 0, 0, 0, 351, 366, 384, 401, 420, 440, 462], [0, 0, 0, 0, 0, 0, 0, 0, 0, 367, 385, 402, 421, 441, 463], [0, 0, 0, 0, 0, 0, 0, 0, 0, 0, 386, 403, 422, 442, 464], [0, 0, 0, 0, 0, 0, 0, 0, 0, 0, 0, 404, 423, 443, 465], [0, 0, 0, 0, 0, 0, 0, 0, 0, 0, 0, 0, 424, 444, 466], [0, 0, 0, 0, 0, 0, 0, 0, 0, 0, 0, 0, 0, 445, 467], [0, 0, 0, 0, 0, 0, 0, 0, 0, 0, 0, 0, 0, 0, 468], [0, 0, 0, 0, 0, 0, 0, 0, 0, 0, 0, 0, 0, 0, 0]]
set_option maxRecDepth 100000 in
theorem lwg_a : ∀ i : Fin 4, (flatC lwG)[lwpa.getD i.1 0]? = some (Cond.arrayOf (.static RX4 (zTn i.1) "[I") .int) ∧ (flatC lwG)[lwpn.getD i.1 0]? = some (Cond.eq (.length (.static RX4 (zTn i.1) "[I")) (.int (Int32.ofNat (zTv i.1).length))) := by decide +kernel
set_option maxRecDepth 100000 in
theorem lwg_e0 : ∀ j : Fin 4, (flatC lwG)[lwpe0.getD j.1 0]? = some (Cond.eq (.elem (.static RX4 (zTn 0) "[I") (.int (Int32.ofNat j.1))) (.int (Int32.ofInt ((zTv 0).getD j.1 0)))) := by decide +kernel
set_option maxRecDepth 100000 in
theorem lwg_e1 : ∀ j : Fin 15, (flatC lwG)[lwpe1.getD j.1 0]? = some (Cond.eq (.elem (.static RX4 (zTn 1) "[I") (.int (Int32.ofNat j.1))) (.int (Int32.ofInt ((zTv 1).getD j.1 0)))) := by decide +kernel
set_option maxRecDepth 100000 in
theorem lwg_e2 : ∀ j : Fin 75, (flatC lwG)[lwpe2.getD j.1 0]? = some (Cond.eq (.elem (.static RX4 (zTn 2) "[I") (.int (Int32.ofNat j.1))) (.int (Int32.ofInt ((zTv 2).getD j.1 0)))) := by decide +kernel
set_option maxRecDepth 100000 in
theorem lwg_e3 : ∀ j : Fin 75, (flatC lwG)[lwpe3.getD j.1 0]? = some (Cond.eq (.elem (.static RX4 (zTn 3) "[I") (.int (Int32.ofNat j.1))) (.int (Int32.ofInt ((zTv 3).getD j.1 0)))) := by decide +kernel
set_option maxRecDepth 100000 in
theorem lwg_s : ∀ i : Fin 15, (flatC lwG)[(lwps.getD i.1 []).getD 0 0]? = some (Cond.exactly (zTm15 i.1) "java/lang/String") ∧ (flatC lwG)[(lwps.getD i.1 []).getD 1 0]? = some (Cond.eq (.field (zTm15 i.1) "java/lang/String" "coder" "B") (.int 0)) ∧ (flatC lwG)[(lwps.getD i.1 []).getD 2 0]? = some (Cond.arrayOf (.field (zTm15 i.1) "java/lang/String" "value" "[B") .byte) ∧ (flatC lwG)[(lwps.getD i.1 []).getD 3 0]? = some (Cond.eq (.length (.field (zTm15 i.1) "java/lang/String" "value" "[B")) (.int (Int32.ofNat (zSl.getD i.1 0)))) := by decide +kernel
set_option maxRecDepth 100000 in
theorem lwg_t : ∀ i : Fin 15, ∀ j : Fin 5, j.1 < zSl.getD i.1 0 → (flatC lwG)[(lwpt.getD i.1 []).getD j.1 0]? = some (Cond.eq (.elem (.field (zTm15 i.1) "java/lang/String" "value" "[B") (.int (Int32.ofNat j.1))) (.int ((zSb.getD i.1 []).getD j.1 0))) := by decide +kernel
set_option maxRecDepth 100000 in
theorem lwg_n : ∀ i j : Fin 15, i.1 < j.1 → (flatC lwG)[(lwpq.getD i.1 []).getD j.1 0]? = some (Cond.not (Cond.eq (zTm15 i.1) (zTm15 j.1))) := by decide +kernel
set_option maxRecDepth 100000 in
theorem lwf_z : Cond.eq (.static RJ0 "COMPACT_STRINGS" "Z") (.int 1) ∈ flatC lwG ∧ Cond.isRef (.static RJ3 "SIOOBE_FORMATTER" "Ljava/util/function/BiFunction;") ∈ flatC lwG := ⟨List.mem_of_getElem? (i := 11) (by decide +kernel), List.mem_of_getElem? (i := 12) (by decide +kernel)⟩
def lwql : List Nat := [662, 738, 756, 758]
def lwqr : List Nat := [666, 667, 668, 669, 670, 671, 672, 673, 674, 675, 676, 677, 678, 679, 680]
set_option maxRecDepth 100000 in
theorem lwg_l : ∀ i : Fin 4, lw_tbl[lwql.getD i.1 0]? = some (Cond.laysStatic RX4 (zTn i.1) "[I") := by decide +kernel
set_option maxRecDepth 100000 in
theorem lwg_r : ∀ i : Fin 15, lw_tbl[lwqr.getD i.1 0]? = some (Cond.stringRef RX4 (zSi.getD i.1 0) (zSt.getD i.1 "")) := by decide +kernel
set_option maxRecDepth 100000 in
theorem lwf_m : Cond.initialized RX4 ∈ lw_tbl ∧ Cond.laysStatic RJ0 "COMPACT_STRINGS" "Z" ∈ lw_tbl ∧ Cond.initialized RJ0 ∈ lw_tbl ∧ Cond.laysStatic RJ3 "SIOOBE_FORMATTER" "Ljava/util/function/BiFunction;" ∈ lw_tbl ∧ Cond.initialized RJ3 ∈ lw_tbl := ⟨List.mem_of_getElem? (i := 107) (by decide +kernel), List.mem_of_getElem? (i := 694) (by decide +kernel), List.mem_of_getElem? (i := 114) (by decide +kernel), List.mem_of_getElem? (i := 710) (by decide +kernel), List.mem_of_getElem? (i := 116) (by decide +kernel)⟩
theorem lwg_e (i : Nat) (hi : i < 4) (j : Nat) (hj : j < (zTv i).length) : (flatC lwG)[(lwpe i).getD j 0]? = some (Cond.eq (.elem (.static RX4 (zTn i) "[I") (.int (Int32.ofNat j))) (.int (Int32.ofInt ((zTv i).getD j 0)))) := by
  rcases (show i = 0 ∨ i = 1 ∨ i = 2 ∨ i = 3 by omega) with rfl | rfl | rfl | rfl
  · exact lwg_e0 ⟨j, hj⟩
  · exact lwg_e1 ⟨j, hj⟩
  · exact lwg_e2 ⟨j, hj⟩
  · exact lwg_e3 ⟨j, hj⟩
theorem lw_stat {b : Nat} {s : State} (hgv : (Jvm.Cond.and given_1 narrow_1).before #[Value.ref b] s = true) (hts : ∀ w ∈ lw_tbl, w.before #[Value.ref b] s = true) : ∃ (tb adK adV : Nat → Nat) (fv : Option Nat), zS0 s.heap.size tb adK adV fv s := by
  have hs : ∀ c ∈ flatC lwG, c.before #[Value.ref b] s = true := flat_of_before _ hgv
  have hA : ∀ a : Nat, a < s.heap.size → ¬ (fun q : Nat => s.heap.size ≤ q) a := fun a ha => Nat.not_le.mpr ha
  have h0 : ∀ i : Nat, ∃ t : Nat, i < 4 → (Term.static RX4 (zTn i) "[I").eval #[Value.ref b] s none [] s = some (.ref t) ∧ va_T .int t (zTv i).length (fun j => .int (Int32.ofInt ((zTv i).getD j 0))) (fun q => s.heap.size ≤ q) s s.heap := by
    intro i
    by_cases hi : i < 4
    · have hl75 : (zTv i).length ≤ 75 := by
        rcases (show i = 0 ∨ i = 1 ∨ i = 2 ∨ i = 3 by omega) with rfl | rfl | rfl | rfl <;> decide
      obtain ⟨t, h1, h2⟩ := va_Tof (f := fun j => .int (Int32.ofInt ((zTv i).getD j 0))) (A := fun q => s.heap.size ≤ q) (N := (zTv i).length) (by omega) (hs _ (List.mem_of_getElem? (lwg_a ⟨i, hi⟩).1)) (va_eqt (hs _ (List.mem_of_getElem? (lwg_a ⟨i, hi⟩).2))) (fun j hj => va_eqt (hs _ (List.mem_of_getElem? (lwg_e i hi j hj)))) hA
      exact ⟨t, fun _ => ⟨h1, h2⟩⟩
    · exact ⟨0, fun h => absurd h hi⟩
  obtain ⟨tb, htb⟩ := Classical.axiomOfChoice h0
  obtain ⟨adK, adV, hS, hE⟩ := vk_Sof (args := #[Value.ref b]) (s := s) (N := 15) (tm := zTm15) (len := zSl) (byt := zSb) (A := fun q => s.heap.size ≤ q) (fun i hi => by
      have : ∀ i : Fin 15, zSl.getD i.1 0 < 2 ^ 31 := by decide
      exact this ⟨i, hi⟩) (fun i hi => hs _ (List.mem_of_getElem? (lwg_s ⟨i, hi⟩).1)) (fun i hi => hs _ (List.mem_of_getElem? (lwg_s ⟨i, hi⟩).2.1)) (fun i hi => hs _ (List.mem_of_getElem? (lwg_s ⟨i, hi⟩).2.2.1)) (fun i hi => hs _ (List.mem_of_getElem? (lwg_s ⟨i, hi⟩).2.2.2))
      (fun i hi j hj => hs _ (List.mem_of_getElem? (lwg_t ⟨i, hi⟩ ⟨j, by
        have : ∀ i : Fin 15, zSl.getD i.1 0 ≤ 5 := by decide
        have := this ⟨i, hi⟩
        simp only at this
        omega⟩ hj)))
      (fun i j hi hj hij => by
        rcases Nat.lt_or_ge i j with h | h
        · exact Or.inl (hs _ (List.mem_of_getElem? (lwg_n ⟨i, hi⟩ ⟨j, hj⟩ h)))
        · exact Or.inr (hs _ (List.mem_of_getElem? (lwg_n ⟨j, hj⟩ ⟨i, hi⟩ (show j < i by omega))))) hA
  obtain ⟨m1, m2, m3, m4, m5⟩ := lwf_m
  have hfv : ∃ fv : Option Nat, (Term.static RJ3 "SIOOBE_FORMATTER" "Ljava/util/function/BiFunction;").eval #[Value.ref b] s none [] s = some (va_rf fv) := by
    have := hs _ lwf_z.2
    cases hv : (Term.static RJ3 "SIOOBE_FORMATTER" "Ljava/util/function/BiFunction;").eval #[Value.ref b] s none [] s with
    | none => simp [Cond.before, Cond.holds, Cond.value, hv] at this
    | some w =>
      cases w with
      | ref a => exact ⟨some a, rfl⟩
      | null => exact ⟨none, rfl⟩
      | _ => simp [Cond.before, Cond.holds, Cond.value, hv] at this
  obtain ⟨fv, hfv⟩ := hfv
  refine ⟨tb, adK, adV, fv, fun i hi => ⟨va_Zof (hts _ (List.mem_of_getElem? (lwg_l ⟨i, hi⟩))) (hts _ m1) (htb i hi).1 hA, (htb i hi).2⟩, hS, fun i hi => vk_R.of (hts _ (List.mem_of_getElem? (lwg_r ⟨i, hi⟩))) (hE i hi), va_Zof (hts _ m2) (hts _ m3) (va_eqi (hs _ lwf_z.1)) hA, va_Zof (hts _ m4) (hts _ m5) hfv hA⟩
end
section
variable {η : zRn}
/-! the cells that the constructors make -/
theorem ar2_v (AD : Nat → Nat) (i j : Nat) : (fun k => zrv AD ([.inr i, .inr j].getD k (.inl (-1)))) = ar2 (AD i) (AD j) := by
  funext k
  match k with
  | 0 => rfl
  | 1 => rfl
  | k + 2 => rfl
theorem upd_v : (fun j => Int32.ofInt (znv ([.inl (-1)].getD j (.inl 0)))) = upd (fun _ => (0 : Int32)) 0 (-1) := by
  funext k
  match k with
  | 0 => rfl
  | k + 1 => rfl
def zTc : zTm := [(63, [.inr 1, .inr 40, .inr 41, .inr 60, .inr 72, .inr 81, .inr 85]), (28, [.inr 2, .inr 4, .inr 5, .inr 22, .inr 29, .inl 0, .inl (-1)]), (1, [.inr 3, .inl 0]), (0, []), (24, []), (25, [.inr 6, .inr 14]), (15, [.inl 0, .inl 0, .inl 0, .inl 0, .inl 0, .inr 7, .inl 0, .inr 8, .inr 9, .inr 10, .inl 0, .inr 11, .inr 12, .inr 13, .inl 0]), (8, []), (9, []), (10, []), (11, []), (12, []), (13, []), (14, []), (15, [.inl 0, .inl 0, .inl 0, .inl 0, .inl 0, .inr 15, .inl 0, .inr 16, .inr 17, .inr 18, .inl 0, .inr 19, .inr 20, .inr 21, .inl 0]), (8, []), (9, []), (10, []), (11, []), (12, []), (13, []), (14, []), (26, [.inr 23, .inr 26]), (18, [.inl 0, .inr 24, .inr 25]), (16, []), (17, []), (18, [.inl 0, .inr 27, .inr 28]), (16, []), (17, []), (27, [.inr 30, .inr 35]), (23, [.inl 0, .inr 31, .inr 32, .inl 0, .inr 33, .inr 34]), (19, []), (20, []), (21, []), (22, []), (23, [.inl 0, .inr 36, .inr 37, .inl 0, .inr 38, .inr 39]), (19, []), (20, []), (21, []), (22, []), (62, []), (34, [.inr 42, .inr 50, .inr 53, .inl 0, .inl 0, .inr 58, .inr 59, .inl 0, .inl 0, .inl 0]), (15, [.inl 0, .inl 0, .inl 0, .inl 0, .inl 0, .inr 43, .inl 0, .inr 44, .inr 45, .inr 46, .inl 0, .inr 47, .inr 48, .inr 49, .inl 0]), (8, []), (9, []), (10, []), (11, []), (12, []), (13, []), (14, []), (18, [.inl 0, .inr 51, .inr 52]), (16, []), (17, []), (23, [.inl 0, .inr 54, .inr 55, .inl 0, .inr 56, .inr 57]), (19, []), (20, []), (21, []), (22, []), (32, []), (33, []), (46, [.inl (-1), .inl (-1), .inr 61, .inr 68, .inr 69, .inr 70, .inl 0, .inl 0, .inl 0, .inl 0, .inl 0, .inl 0, .inl 0, .inl 0, .inl 0, .inr 71]), (41, [.inr 62, .inr 63, .inr 64, .inr 65, .inr 66, .inr 67, .inl 0, .inl 0]), (35, []), (36, []), (37, []), (38, []), (39, []), (40, []), (42, []), (43, []), (44, []), (45, []), (47, [.inl 0, .inl 0, .inl 0, .inr 73]), (15, [.inl 0, .inl 0, .inl 0, .inl 0, .inl 0, .inr 74, .inl 0, .inr 75, .inr 76, .inr 77, .inl 0, .inr 78, .inr 79, .inr 80, .inl 0]), (8, []), (9, []), (10, []), (11, []), (12, []), (13, []), (14, []), (51, [.inl 0, .inl 0, .inl 0, .inr 82, .inr 83, .inr 84, .inl 0]), (48, []), (49, []), (50, []), (58, [.inr 86, .inr 87, .inr 88, .inr 89, .inr 90, .inr 91]), (52, []), (53, []), (54, []), (55, []), (56, []), (57, [])]
set_option maxRecDepth 100000 in
theorem zTc_ok : zokT zkds zTc = true := by decide +kernel
set_option maxRecDepth 100000 in
theorem zTc_ox : zTc.all (fun q => zokx zTc.length (zkds.getD q.1 (0, 0, 0, [])) q.2) = true := by decide +kernel
def zTr : zTm := [(35, [.inl 0, .inr 1, .inr 2, .inr 3, .inr 4, .inr 5, .inr 6, .inr 7, .inr 8, .inl 0, .inl 0, .inl 0, .inl 0, .inl 0, .inl 0, .inl 0, .inl 0, .inl 0, .inr 9, .inr 10, .inl 0, .inl 0, .inl 0, .inl 0, .inl 0, .inl 0, .inl 0, .inl 0, .inl 0, .inl 0, .inr 11, .inr 12, .inr 13, .inl 0, .inl 0, .inl 0, .inr 14, .inr 15, .inr 16, .inr 17, .inr 18, .inr 19, .inr 20, .inr 21, .inr 22, .inr 23, .inr 24, .inr 25, .inr 26, .inl 0, .inl 0, .inl 0, .inr 27, .inr 28, .inr 29, .inl 0, .inl 0, .inl 0, .inr 30, .inr 31, .inr 32, .inr 33, .inr 34, .inr 35]), (0, []), (1, []), (2, []), (3, [.inl (-1)]), (4, []), (5, []), (6, []), (7, []), (8, []), (9, []), (10, []), (11, []), (12, []), (13, []), (14, []), (15, []), (20, []), (19, []), (16, []), (17, []), (18, []), (21, []), (22, []), (23, []), (24, []), (25, []), (27, []), (28, []), (26, []), (29, []), (30, []), (31, []), (32, []), (33, []), (34, [])]
set_option maxRecDepth 100000 in
theorem zTr_ok : zokT zkdm zTr = true := by decide +kernel
set_option maxRecDepth 100000 in
theorem zTr_ox : zTr.all (fun q => zokx zTr.length (zkdm.getD q.1 (0, 0, 0, [])) q.2) = true := by decide +kernel
def zTi0 : zTm := [(29, [.inr 1, .inr 3, .inr 4, .inr 21, .inr 28, .inl 0, .inl (-1)]), (3, [.inr 2, .inl 0]), (2, []), (24, []), (25, [.inr 5, .inr 13]), (15, [.inl 0, .inl 0, .inl 0, .inl 0, .inl 0, .inr 6, .inl 0, .inr 7, .inr 8, .inr 9, .inl 0, .inr 10, .inr 11, .inr 12, .inl 0]), (8, []), (9, []), (10, []), (11, []), (12, []), (13, []), (14, []), (15, [.inl 0, .inl 0, .inl 0, .inl 0, .inl 0, .inr 14, .inl 0, .inr 15, .inr 16, .inr 17, .inl 0, .inr 18, .inr 19, .inr 20, .inl 0]), (8, []), (9, []), (10, []), (11, []), (12, []), (13, []), (14, []), (26, [.inr 22, .inr 25]), (18, [.inl 0, .inr 23, .inr 24]), (16, []), (17, []), (18, [.inl 0, .inr 26, .inr 27]), (16, []), (17, []), (27, [.inr 29, .inr 34]), (23, [.inl 0, .inr 30, .inr 31, .inl 0, .inr 32, .inr 33]), (19, []), (20, []), (21, []), (22, []), (23, [.inl 0, .inr 35, .inr 36, .inl 0, .inr 37, .inr 38]), (19, []), (20, []), (21, []), (22, [])]
set_option maxRecDepth 100000 in
theorem zTi0_ok : zokT zkds zTi0 = true := by decide +kernel
set_option maxRecDepth 100000 in
theorem zTi0_ox : zTi0.all (fun q => zokx zTi0.length (zkds.getD q.1 (0, 0, 0, [])) q.2) = true := by decide +kernel
def zTi1 : zTm := [(30, [.inr 1, .inr 3, .inr 4, .inr 21, .inr 28, .inl 0, .inl (-1)]), (5, [.inr 2, .inl 0]), (4, []), (24, []), (25, [.inr 5, .inr 13]), (15, [.inl 0, .inl 0, .inl 0, .inl 0, .inl 0, .inr 6, .inl 0, .inr 7, .inr 8, .inr 9, .inl 0, .inr 10, .inr 11, .inr 12, .inl 0]), (8, []), (9, []), (10, []), (11, []), (12, []), (13, []), (14, []), (15, [.inl 0, .inl 0, .inl 0, .inl 0, .inl 0, .inr 14, .inl 0, .inr 15, .inr 16, .inr 17, .inl 0, .inr 18, .inr 19, .inr 20, .inl 0]), (8, []), (9, []), (10, []), (11, []), (12, []), (13, []), (14, []), (26, [.inr 22, .inr 25]), (18, [.inl 0, .inr 23, .inr 24]), (16, []), (17, []), (18, [.inl 0, .inr 26, .inr 27]), (16, []), (17, []), (27, [.inr 29, .inr 34]), (23, [.inl 0, .inr 30, .inr 31, .inl 0, .inr 32, .inr 33]), (19, []), (20, []), (21, []), (22, []), (23, [.inl 0, .inr 35, .inr 36, .inl 0, .inr 37, .inr 38]), (19, []), (20, []), (21, []), (22, [])]
set_option maxRecDepth 100000 in
theorem zTi1_ok : zokT zkds zTi1 = true := by decide +kernel
set_option maxRecDepth 100000 in
theorem zTi1_ox : zTi1.all (fun q => zokx zTi1.length (zkds.getD q.1 (0, 0, 0, [])) q.2) = true := by decide +kernel
def zTi2 : zTm := [(31, [.inr 1, .inr 3, .inr 4, .inr 21, .inr 28, .inl 0, .inl (-1)]), (7, [.inr 2, .inl 0]), (6, []), (24, []), (25, [.inr 5, .inr 13]), (15, [.inl 0, .inl 0, .inl 0, .inl 0, .inl 0, .inr 6, .inl 0, .inr 7, .inr 8, .inr 9, .inl 0, .inr 10, .inr 11, .inr 12, .inl 0]), (8, []), (9, []), (10, []), (11, []), (12, []), (13, []), (14, []), (15, [.inl 0, .inl 0, .inl 0, .inl 0, .inl 0, .inr 14, .inl 0, .inr 15, .inr 16, .inr 17, .inl 0, .inr 18, .inr 19, .inr 20, .inl 0]), (8, []), (9, []), (10, []), (11, []), (12, []), (13, []), (14, []), (26, [.inr 22, .inr 25]), (18, [.inl 0, .inr 23, .inr 24]), (16, []), (17, []), (18, [.inl 0, .inr 26, .inr 27]), (16, []), (17, []), (27, [.inr 29, .inr 34]), (23, [.inl 0, .inr 30, .inr 31, .inl 0, .inr 32, .inr 33]), (19, []), (20, []), (21, []), (22, []), (23, [.inl 0, .inr 35, .inr 36, .inl 0, .inr 37, .inr 38]), (19, []), (20, []), (21, []), (22, [])]
set_option maxRecDepth 100000 in
theorem zTi2_ok : zokT zkds zTi2 = true := by decide +kernel
set_option maxRecDepth 100000 in
theorem zTi2_ox : zTi2.all (fun q => zokx zTi2.length (zkds.getD q.1 (0, 0, 0, [])) q.2) = true := by decide +kernel
set_option maxHeartbeats 4000000 in
set_option maxRecDepth 100000 in
theorem zc_at {D : va_G} {cy : Nat → ClassId} {h0 : Nat} {ad : Nat → Nat} {H : Heap} (hP : va_P D vwCl [(h0, .inr (11, [.ref (ad 0), .ref (ad 1), .ref (ad 2), .ref (ad 3), .ref (ad 4), .ref (ad 5), .ref (ad 6)])), ((ad 0), .inr (9, [.ref (ad 7), .ref (ad 8), .ref (ad 9), .ref (ad 10), .ref (ad 11), .int 0, .int (-1)])), ((ad 7), .inr (8, [.ref (ad 12), .int 0])), ((ad 12), .inl (cy 1, 600, .inl (fun _ => 0))), ((ad 8), .inl (cy 0, 3, .inl (fun _ => 0))), ((ad 9), .inl (cy 3, 2, .inr (.inr (.inr (.inr (ar2 (ad 13) (ad 14))))))), ((ad 13), .inr (6, [.int 0, .int 0, .int 0, .int 0, .int 0, .ref (ad 15), .int 0, .ref (ad 16), .ref (ad 17), .ref (ad 18), .int 0, .ref (ad 19), .ref (ad 20), .ref (ad 21), .int 0])), ((ad 15), .inl (cy 0, 12, .inl (fun _ => 0))), ((ad 16), .inl (cy 0, 4, .inl (fun _ => 0))), ((ad 17), .inl (cy 0, 4, .inl (fun _ => 0))), ((ad 18), .inl (cy 0, 4, .inl (fun _ => 0))), ((ad 19), .inl (cy 0, 6, .inl (fun _ => 0))), ((ad 20), .inl (cy 0, 6, .inl (fun _ => 0))), ((ad 21), .inl (cy 0, 6, .inl (fun _ => 0))), ((ad 14), .inr (6, [.int 0, .int 0, .int 0, .int 0, .int 0, .ref (ad 22), .int 0, .ref (ad 23), .ref (ad 24), .ref (ad 25), .int 0, .ref (ad 26), .ref (ad 27), .ref (ad 28), .int 0])), ((ad 22), .inl (cy 0, 12, .inl (fun _ => 0))), ((ad 23), .inl (cy 0, 4, .inl (fun _ => 0))), ((ad 24), .inl (cy 0, 4, .inl (fun _ => 0))), ((ad 25), .inl (cy 0, 4, .inl (fun _ => 0))), ((ad 26), .inl (cy 0, 6, .inl (fun _ => 0))), ((ad 27), .inl (cy 0, 6, .inl (fun _ => 0))), ((ad 28), .inl (cy 0, 6, .inl (fun _ => 0))), ((ad 10), .inl (cy 4, 2, .inr (.inr (.inr (.inr (ar2 (ad 29) (ad 30))))))), ((ad 29), .inr (1, [.int 0, .ref (ad 31), .ref (ad 32)])), ((ad 31), .inl (cy 0, 30, .inl (fun _ => 0))), ((ad 32), .inl (cy 0, 90, .inl (fun _ => 0))), ((ad 30), .inr (1, [.int 0, .ref (ad 33), .ref (ad 34)])), ((ad 33), .inl (cy 0, 30, .inl (fun _ => 0))), ((ad 34), .inl (cy 0, 90, .inl (fun _ => 0))), ((ad 11), .inl (cy 5, 2, .inr (.inr (.inr (.inr (ar2 (ad 35) (ad 36))))))), ((ad 35), .inr (2, [.int 0, .ref (ad 37), .ref (ad 38), .int 0, .ref (ad 39), .ref (ad 40)])), ((ad 37), .inl (cy 0, 9, .inl (fun _ => 0))), ((ad 38), .inl (cy 0, 9, .inl (fun _ => 0))), ((ad 39), .inl (cy 0, 16, .inl (fun _ => 0))), ((ad 40), .inl (cy 0, 16, .inl (fun _ => 0))), ((ad 36), .inr (2, [.int 0, .ref (ad 41), .ref (ad 42), .int 0, .ref (ad 43), .ref (ad 44)])), ((ad 41), .inl (cy 0, 9, .inl (fun _ => 0))), ((ad 42), .inl (cy 0, 9, .inl (fun _ => 0))), ((ad 43), .inl (cy 0, 16, .inl (fun _ => 0))), ((ad 44), .inl (cy 0, 16, .inl (fun _ => 0))), ((ad 1), .inl (cy 6, 3, .inr (.inr (.inr (.inr (fun _ => none)))))), ((ad 2), .inr (4, [.ref (ad 45), .ref (ad 46), .ref (ad 47), .int 0, .int 0, .ref (ad 48), .ref (ad 49), .int 0, .int 0, .int 0])), ((ad 45), .inr (6, [.int 0, .int 0, .int 0, .int 0, .int 0, .ref (ad 50), .int 0, .ref (ad 51), .ref (ad 52), .ref (ad 53), .int 0, .ref (ad 54), .ref (ad 55), .ref (ad 56), .int 0])), ((ad 50), .inl (cy 0, 12, .inl (fun _ => 0))), ((ad 51), .inl (cy 0, 4, .inl (fun _ => 0))), ((ad 52), .inl (cy 0, 4, .inl (fun _ => 0))), ((ad 53), .inl (cy 0, 4, .inl (fun _ => 0))), ((ad 54), .inl (cy 0, 6, .inl (fun _ => 0))), ((ad 55), .inl (cy 0, 6, .inl (fun _ => 0))), ((ad 56), .inl (cy 0, 6, .inl (fun _ => 0))), ((ad 46), .inr (1, [.int 0, .ref (ad 57), .ref (ad 58)])), ((ad 57), .inl (cy 0, 30, .inl (fun _ => 0))), ((ad 58), .inl (cy 0, 90, .inl (fun _ => 0))), ((ad 47), .inr (2, [.int 0, .ref (ad 59), .ref (ad 60), .int 0, .ref (ad 61), .ref (ad 62)])), ((ad 59), .inl (cy 0, 9, .inl (fun _ => 0))), ((ad 60), .inl (cy 0, 9, .inl (fun _ => 0))), ((ad 61), .inl (cy 0, 16, .inl (fun _ => 0))), ((ad 62), .inl (cy 0, 16, .inl (fun _ => 0))), ((ad 48), .inl (cy 0, 5, .inl (fun _ => 0))), ((ad 49), .inl (cy 0, 5, .inl (fun _ => 0))), ((ad 3), .inr (5, [.null, .null, .ref (ad 63), .ref (ad 64), .ref (ad 65), .ref (ad 66), .int 0, .int 0, .int 0, .int 0, .int 0, .int 0, .int 0, .int 0, .int 0, .ref (ad 67)])), ((ad 63), .inr (7, [.ref (ad 68), .ref (ad 69), .ref (ad 70), .ref (ad 71), .ref (ad 72), .ref (ad 73), .int 0, .int 0])), ((ad 68), .inl (cy 0, 6, .inl (fun _ => 0))), ((ad 69), .inl (cy 0, 6, .inl (fun _ => 0))), ((ad 70), .inl (cy 0, 6, .inl (fun _ => 0))), ((ad 71), .inl (cy 0, 6, .inl (fun _ => 0))), ((ad 72), .inl (cy 0, 6, .inl (fun _ => 0))), ((ad 73), .inl (cy 0, 6, .inl (fun _ => 0))), ((ad 64), .inl (cy 0, 6, .inl (fun _ => 0))), ((ad 65), .inl (cy 0, 6, .inl (fun _ => 0))), ((ad 66), .inl (cy 0, 6, .inl (fun _ => 0))), ((ad 67), .inl (cy 0, 3, .inl (fun _ => 0))), ((ad 4), .inr (10, [.int 0, .int 0, .int 0, .ref (ad 74)])), ((ad 74), .inr (6, [.int 0, .int 0, .int 0, .int 0, .int 0, .ref (ad 75), .int 0, .ref (ad 76), .ref (ad 77), .ref (ad 78), .int 0, .ref (ad 79), .ref (ad 80), .ref (ad 81), .int 0])), ((ad 75), .inl (cy 0, 12, .inl (fun _ => 0))), ((ad 76), .inl (cy 0, 4, .inl (fun _ => 0))), ((ad 77), .inl (cy 0, 4, .inl (fun _ => 0))), ((ad 78), .inl (cy 0, 4, .inl (fun _ => 0))), ((ad 79), .inl (cy 0, 6, .inl (fun _ => 0))), ((ad 80), .inl (cy 0, 6, .inl (fun _ => 0))), ((ad 81), .inl (cy 0, 6, .inl (fun _ => 0))), ((ad 5), .inr (0, [.int 0, .int 0, .int 0, .ref (ad 82), .ref (ad 83), .ref (ad 84), .long 0])), ((ad 82), .inl (cy 0, 128, .inl (fun _ => 0))), ((ad 83), .inl (cy 0, 128, .inl (fun _ => 0))), ((ad 84), .inl (cy 0, 16, .inl (fun _ => 0))), ((ad 6), .inr (3, [.ref (ad 85), .ref (ad 86), .ref (ad 87), .ref (ad 88), .ref (ad 89), .ref (ad 90)])), ((ad 85), .inl (cy 0, 9, .inl (fun _ => 0))), ((ad 86), .inl (cy 0, 9, .inl (fun _ => 0))), ((ad 87), .inl (cy 0, 9, .inl (fun _ => 0))), ((ad 88), .inl (cy 0, 9, .inl (fun _ => 0))), ((ad 89), .inl (cy 0, 512, .inl (fun _ => 0))), ((ad 90), .inl (cy 0, 81, .inl (fun _ => 0)))] H) (i : Nat) (hi : i < zTc.length) : va_at D vwCl ((fun i => [h0, ad 0, ad 7, ad 12, ad 8, ad 9, ad 13, ad 15, ad 16, ad 17, ad 18, ad 19, ad 20, ad 21, ad 14, ad 22, ad 23, ad 24, ad 25, ad 26, ad 27, ad 28, ad 10, ad 29, ad 31, ad 32, ad 30, ad 33, ad 34, ad 11, ad 35, ad 37, ad 38, ad 39, ad 40, ad 36, ad 41, ad 42, ad 43, ad 44, ad 1, ad 2, ad 45, ad 50, ad 51, ad 52, ad 53, ad 54, ad 55, ad 56, ad 46, ad 57, ad 58, ad 47, ad 59, ad 60, ad 61, ad 62, ad 48, ad 49, ad 3, ad 63, ad 68, ad 69, ad 70, ad 71, ad 72, ad 73, ad 64, ad 65, ad 66, ad 67, ad 4, ad 74, ad 75, ad 76, ad 77, ad 78, ad 79, ad 80, ad 81, ad 5, ad 82, ad 83, ad 84, ad 6, ad 85, ad 86, ad 87, ad 88, ad 89, ad 90].getD i 0) i, zEv (fun i => [h0, ad 0, ad 7, ad 12, ad 8, ad 9, ad 13, ad 15, ad 16, ad 17, ad 18, ad 19, ad 20, ad 21, ad 14, ad 22, ad 23, ad 24, ad 25, ad 26, ad 27, ad 28, ad 10, ad 29, ad 31, ad 32, ad 30, ad 33, ad 34, ad 11, ad 35, ad 37, ad 38, ad 39, ad 40, ad 36, ad 41, ad 42, ad 43, ad 44, ad 1, ad 2, ad 45, ad 50, ad 51, ad 52, ad 53, ad 54, ad 55, ad 56, ad 46, ad 57, ad 58, ad 47, ad 59, ad 60, ad 61, ad 62, ad 48, ad 49, ad 3, ad 63, ad 68, ad 69, ad 70, ad 71, ad 72, ad 73, ad 64, ad 65, ad 66, ad 67, ad 4, ad 74, ad 75, ad 76, ad 77, ad 78, ad 79, ad 80, ad 81, ad 5, ad 82, ad 83, ad 84, ad 6, ad 85, ad 86, ad 87, ad 88, ad 89, ad 90].getD i 0) cy (zkT zkds zTc i) (zTc.getD i (0, [])).2) H := by
  match i, hi with
  | 0, _ => exact hP 0 _ rfl
  | 1, _ => exact hP 1 _ rfl
  | 2, _ => exact hP 2 _ rfl
  | 3, _ => exact hP 3 _ rfl
  | 4, _ => exact hP 4 _ rfl
  | 5, _ =>
    show va_at D vwCl ((fun i => [h0, ad 0, ad 7, ad 12, ad 8, ad 9, ad 13, ad 15, ad 16, ad 17, ad 18, ad 19, ad 20, ad 21, ad 14, ad 22, ad 23, ad 24, ad 25, ad 26, ad 27, ad 28, ad 10, ad 29, ad 31, ad 32, ad 30, ad 33, ad 34, ad 11, ad 35, ad 37, ad 38, ad 39, ad 40, ad 36, ad 41, ad 42, ad 43, ad 44, ad 1, ad 2, ad 45, ad 50, ad 51, ad 52, ad 53, ad 54, ad 55, ad 56, ad 46, ad 57, ad 58, ad 47, ad 59, ad 60, ad 61, ad 62, ad 48, ad 49, ad 3, ad 63, ad 68, ad 69, ad 70, ad 71, ad 72, ad 73, ad 64, ad 65, ad 66, ad 67, ad 4, ad 74, ad 75, ad 76, ad 77, ad 78, ad 79, ad 80, ad 81, ad 5, ad 82, ad 83, ad 84, ad 6, ad 85, ad 86, ad 87, ad 88, ad 89, ad 90].getD i 0) 5, .inl (cy 3, 2, .inr (.inr (.inr (.inr (fun k => zrv (fun i => [h0, ad 0, ad 7, ad 12, ad 8, ad 9, ad 13, ad 15, ad 16, ad 17, ad 18, ad 19, ad 20, ad 21, ad 14, ad 22, ad 23, ad 24, ad 25, ad 26, ad 27, ad 28, ad 10, ad 29, ad 31, ad 32, ad 30, ad 33, ad 34, ad 11, ad 35, ad 37, ad 38, ad 39, ad 40, ad 36, ad 41, ad 42, ad 43, ad 44, ad 1, ad 2, ad 45, ad 50, ad 51, ad 52, ad 53, ad 54, ad 55, ad 56, ad 46, ad 57, ad 58, ad 47, ad 59, ad 60, ad 61, ad 62, ad 48, ad 49, ad 3, ad 63, ad 68, ad 69, ad 70, ad 71, ad 72, ad 73, ad 64, ad 65, ad 66, ad 67, ad 4, ad 74, ad 75, ad 76, ad 77, ad 78, ad 79, ad 80, ad 81, ad 5, ad 82, ad 83, ad 84, ad 6, ad 85, ad 86, ad 87, ad 88, ad 89, ad 90].getD i 0) ([.inr 6, .inr 14].getD k (.inl (-1))))))))) H
    rw [ar2_v]
    exact hP 5 _ rfl
  | 6, _ => exact hP 6 _ rfl
  | 7, _ => exact hP 7 _ rfl
  | 8, _ => exact hP 8 _ rfl
  | 9, _ => exact hP 9 _ rfl
  | 10, _ => exact hP 10 _ rfl
  | 11, _ => exact hP 11 _ rfl
  | 12, _ => exact hP 12 _ rfl
  | 13, _ => exact hP 13 _ rfl
  | 14, _ => exact hP 14 _ rfl
  | 15, _ => exact hP 15 _ rfl
  | 16, _ => exact hP 16 _ rfl
  | 17, _ => exact hP 17 _ rfl
  | 18, _ => exact hP 18 _ rfl
  | 19, _ => exact hP 19 _ rfl
  | 20, _ => exact hP 20 _ rfl
  | 21, _ => exact hP 21 _ rfl
  | 22, _ =>
    show va_at D vwCl ((fun i => [h0, ad 0, ad 7, ad 12, ad 8, ad 9, ad 13, ad 15, ad 16, ad 17, ad 18, ad 19, ad 20, ad 21, ad 14, ad 22, ad 23, ad 24, ad 25, ad 26, ad 27, ad 28, ad 10, ad 29, ad 31, ad 32, ad 30, ad 33, ad 34, ad 11, ad 35, ad 37, ad 38, ad 39, ad 40, ad 36, ad 41, ad 42, ad 43, ad 44, ad 1, ad 2, ad 45, ad 50, ad 51, ad 52, ad 53, ad 54, ad 55, ad 56, ad 46, ad 57, ad 58, ad 47, ad 59, ad 60, ad 61, ad 62, ad 48, ad 49, ad 3, ad 63, ad 68, ad 69, ad 70, ad 71, ad 72, ad 73, ad 64, ad 65, ad 66, ad 67, ad 4, ad 74, ad 75, ad 76, ad 77, ad 78, ad 79, ad 80, ad 81, ad 5, ad 82, ad 83, ad 84, ad 6, ad 85, ad 86, ad 87, ad 88, ad 89, ad 90].getD i 0) 22, .inl (cy 4, 2, .inr (.inr (.inr (.inr (fun k => zrv (fun i => [h0, ad 0, ad 7, ad 12, ad 8, ad 9, ad 13, ad 15, ad 16, ad 17, ad 18, ad 19, ad 20, ad 21, ad 14, ad 22, ad 23, ad 24, ad 25, ad 26, ad 27, ad 28, ad 10, ad 29, ad 31, ad 32, ad 30, ad 33, ad 34, ad 11, ad 35, ad 37, ad 38, ad 39, ad 40, ad 36, ad 41, ad 42, ad 43, ad 44, ad 1, ad 2, ad 45, ad 50, ad 51, ad 52, ad 53, ad 54, ad 55, ad 56, ad 46, ad 57, ad 58, ad 47, ad 59, ad 60, ad 61, ad 62, ad 48, ad 49, ad 3, ad 63, ad 68, ad 69, ad 70, ad 71, ad 72, ad 73, ad 64, ad 65, ad 66, ad 67, ad 4, ad 74, ad 75, ad 76, ad 77, ad 78, ad 79, ad 80, ad 81, ad 5, ad 82, ad 83, ad 84, ad 6, ad 85, ad 86, ad 87, ad 88, ad 89, ad 90].getD i 0) ([.inr 23, .inr 26].getD k (.inl (-1))))))))) H
    rw [ar2_v]
    exact hP 22 _ rfl
  | 23, _ => exact hP 23 _ rfl
  | 24, _ => exact hP 24 _ rfl
  | 25, _ => exact hP 25 _ rfl
  | 26, _ => exact hP 26 _ rfl
  | 27, _ => exact hP 27 _ rfl
  | 28, _ => exact hP 28 _ rfl
  | 29, _ =>
    show va_at D vwCl ((fun i => [h0, ad 0, ad 7, ad 12, ad 8, ad 9, ad 13, ad 15, ad 16, ad 17, ad 18, ad 19, ad 20, ad 21, ad 14, ad 22, ad 23, ad 24, ad 25, ad 26, ad 27, ad 28, ad 10, ad 29, ad 31, ad 32, ad 30, ad 33, ad 34, ad 11, ad 35, ad 37, ad 38, ad 39, ad 40, ad 36, ad 41, ad 42, ad 43, ad 44, ad 1, ad 2, ad 45, ad 50, ad 51, ad 52, ad 53, ad 54, ad 55, ad 56, ad 46, ad 57, ad 58, ad 47, ad 59, ad 60, ad 61, ad 62, ad 48, ad 49, ad 3, ad 63, ad 68, ad 69, ad 70, ad 71, ad 72, ad 73, ad 64, ad 65, ad 66, ad 67, ad 4, ad 74, ad 75, ad 76, ad 77, ad 78, ad 79, ad 80, ad 81, ad 5, ad 82, ad 83, ad 84, ad 6, ad 85, ad 86, ad 87, ad 88, ad 89, ad 90].getD i 0) 29, .inl (cy 5, 2, .inr (.inr (.inr (.inr (fun k => zrv (fun i => [h0, ad 0, ad 7, ad 12, ad 8, ad 9, ad 13, ad 15, ad 16, ad 17, ad 18, ad 19, ad 20, ad 21, ad 14, ad 22, ad 23, ad 24, ad 25, ad 26, ad 27, ad 28, ad 10, ad 29, ad 31, ad 32, ad 30, ad 33, ad 34, ad 11, ad 35, ad 37, ad 38, ad 39, ad 40, ad 36, ad 41, ad 42, ad 43, ad 44, ad 1, ad 2, ad 45, ad 50, ad 51, ad 52, ad 53, ad 54, ad 55, ad 56, ad 46, ad 57, ad 58, ad 47, ad 59, ad 60, ad 61, ad 62, ad 48, ad 49, ad 3, ad 63, ad 68, ad 69, ad 70, ad 71, ad 72, ad 73, ad 64, ad 65, ad 66, ad 67, ad 4, ad 74, ad 75, ad 76, ad 77, ad 78, ad 79, ad 80, ad 81, ad 5, ad 82, ad 83, ad 84, ad 6, ad 85, ad 86, ad 87, ad 88, ad 89, ad 90].getD i 0) ([.inr 30, .inr 35].getD k (.inl (-1))))))))) H
    rw [ar2_v]
    exact hP 29 _ rfl
  | 30, _ => exact hP 30 _ rfl
  | 31, _ => exact hP 31 _ rfl
  | 32, _ => exact hP 32 _ rfl
  | 33, _ => exact hP 33 _ rfl
  | 34, _ => exact hP 34 _ rfl
  | 35, _ => exact hP 35 _ rfl
  | 36, _ => exact hP 36 _ rfl
  | 37, _ => exact hP 37 _ rfl
  | 38, _ => exact hP 38 _ rfl
  | 39, _ => exact hP 39 _ rfl
  | 40, _ => exact hP 40 _ rfl
  | 41, _ => exact hP 41 _ rfl
  | 42, _ => exact hP 42 _ rfl
  | 43, _ => exact hP 43 _ rfl
  | 44, _ => exact hP 44 _ rfl
  | 45, _ => exact hP 45 _ rfl
  | 46, _ => exact hP 46 _ rfl
  | 47, _ => exact hP 47 _ rfl
  | 48, _ => exact hP 48 _ rfl
  | 49, _ => exact hP 49 _ rfl
  | 50, _ => exact hP 50 _ rfl
  | 51, _ => exact hP 51 _ rfl
  | 52, _ => exact hP 52 _ rfl
  | 53, _ => exact hP 53 _ rfl
  | 54, _ => exact hP 54 _ rfl
  | 55, _ => exact hP 55 _ rfl
  | 56, _ => exact hP 56 _ rfl
  | 57, _ => exact hP 57 _ rfl
  | 58, _ => exact hP 58 _ rfl
  | 59, _ => exact hP 59 _ rfl
  | 60, _ => exact hP 60 _ rfl
  | 61, _ => exact hP 61 _ rfl
  | 62, _ => exact hP 62 _ rfl
  | 63, _ => exact hP 63 _ rfl
  | 64, _ => exact hP 64 _ rfl
  | 65, _ => exact hP 65 _ rfl
  | 66, _ => exact hP 66 _ rfl
  | 67, _ => exact hP 67 _ rfl
  | 68, _ => exact hP 68 _ rfl
  | 69, _ => exact hP 69 _ rfl
  | 70, _ => exact hP 70 _ rfl
  | 71, _ => exact hP 71 _ rfl
  | 72, _ => exact hP 72 _ rfl
  | 73, _ => exact hP 73 _ rfl
  | 74, _ => exact hP 74 _ rfl
  | 75, _ => exact hP 75 _ rfl
  | 76, _ => exact hP 76 _ rfl
  | 77, _ => exact hP 77 _ rfl
  | 78, _ => exact hP 78 _ rfl
  | 79, _ => exact hP 79 _ rfl
  | 80, _ => exact hP 80 _ rfl
  | 81, _ => exact hP 81 _ rfl
  | 82, _ => exact hP 82 _ rfl
  | 83, _ => exact hP 83 _ rfl
  | 84, _ => exact hP 84 _ rfl
  | 85, _ => exact hP 85 _ rfl
  | 86, _ => exact hP 86 _ rfl
  | 87, _ => exact hP 87 _ rfl
  | 88, _ => exact hP 88 _ rfl
  | 89, _ => exact hP 89 _ rfl
  | 90, _ => exact hP 90 _ rfl
  | 91, _ => exact hP 91 _ rfl
  | i + 92, hi => exact absurd hi (by show ¬ (i + 92 < 92); omega)
set_option maxHeartbeats 4000000 in
set_option maxRecDepth 100000 in
theorem zr_at {D : va_G} {cy : Nat → ClassId} {h0 q_1 q_2 q_3 q_4 q_5 q_6 q_7 q_8 q_9 q_10 q_11 q_12 q_13 q_14 q_15 q_16 q_17 q_18 q_19 q_20 q_21 q_22 q_23 q_24 q_25 q_26 q_27 q_28 q_29 q_30 q_31 q_32 q_33 q_34 q_35 : Nat} {H : Heap} (hP : va_P D vwCl [(h0, .inr (12, [.int 0, .ref q_1, .ref q_2, .ref q_3, .ref q_4, .ref q_5, .ref q_6, .ref q_7, .ref q_8, .int 0, .int 0, .int 0, .int 0, .int 0, .long 0, .int 0, .int 0, .int 0, .ref q_9, .ref q_10, .int 0, .int 0, .int 0, .int 0, .int 0, .int 0, .int 0, .int 0, .int 0, .int 0, .ref q_11, .ref q_12, .ref q_13, .int 0, .int 0, .int 0, .ref q_14, .ref q_15, .ref q_16, .ref q_17, .ref q_18, .ref q_19, .ref q_20, .ref q_21, .ref q_22, .ref q_23, .ref q_24, .ref q_25, .ref q_26, .int 0, .int 0, .int 0, .ref q_27, .ref q_28, .ref q_29, .int 0, .int 0, .int 0, .ref q_30, .ref q_31, .ref q_32, .ref q_33, .ref q_34, .ref q_35])), (q_1, .inl (cy 1, 2400, .inl (fun _ => 0))), (q_2, .inl (cy 0, 4, .inl (fun _ => 0))), (q_3, .inl (cy 0, 4, .inl (fun _ => 0))), (q_4, .inl (cy 0, 4, .inl (upd (fun _ => 0) 0 (-1)))), (q_5, .inl (cy 0, 12, .inl (fun _ => 0))), (q_6, .inl (cy 0, 400, .inl (fun _ => 0))), (q_7, .inl (cy 0, 968, .inl (fun _ => 0))), (q_8, .inl (cy 0, 416, .inl (fun _ => 0))), (q_9, .inl (cy 0, 121, .inl (fun _ => 0))), (q_10, .inl (cy 0, 5, .inl (fun _ => 0))), (q_11, .inl (cy 0, 6, .inl (fun _ => 0))), (q_12, .inl (cy 0, 6, .inl (fun _ => 0))), (q_13, .inl (cy 0, 6, .inl (fun _ => 0))), (q_14, .inl (cy 0, 6, .inl (fun _ => 0))), (q_15, .inl (cy 0, 6, .inl (fun _ => 0))), (q_16, .inl (cy 0, 6, .inl (fun _ => 0))), (q_17, .inl (cy 0, 6, .inl (fun _ => 0))), (q_18, .inl (cy 0, 6, .inl (fun _ => 0))), (q_19, .inl (cy 0, 6, .inl (fun _ => 0))), (q_20, .inl (cy 0, 6, .inl (fun _ => 0))), (q_21, .inl (cy 0, 6, .inl (fun _ => 0))), (q_22, .inl (cy 0, 30, .inl (fun _ => 0))), (q_23, .inl (cy 0, 30, .inl (fun _ => 0))), (q_24, .inl (cy 0, 30, .inl (fun _ => 0))), (q_25, .inl (cy 0, 30, .inl (fun _ => 0))), (q_26, .inl (cy 0, 30, .inl (fun _ => 0))), (q_27, .inl (cy 2, 1984, .inl (fun _ => 0))), (q_28, .inl (cy 2, 1984, .inl (fun _ => 0))), (q_29, .inl (cy 0, 30, .inl (fun _ => 0))), (q_30, .inl (cy 0, 9, .inl (fun _ => 0))), (q_31, .inl (cy 0, 512, .inl (fun _ => 0))), (q_32, .inl (cy 0, 9, .inl (fun _ => 0))), (q_33, .inl (cy 0, 9, .inl (fun _ => 0))), (q_34, .inl (cy 0, 9, .inl (fun _ => 0))), (q_35, .inl (cy 2, 3, .inl (fun _ => 0)))] H) (i : Nat) (hi : i < zTr.length) : va_at D vwCl ((fun i => [h0, q_1, q_2, q_3, q_4, q_5, q_6, q_7, q_8, q_9, q_10, q_11, q_12, q_13, q_14, q_15, q_16, q_17, q_18, q_19, q_20, q_21, q_22, q_23, q_24, q_25, q_26, q_27, q_28, q_29, q_30, q_31, q_32, q_33, q_34, q_35].getD i 0) i, zEv (fun i => [h0, q_1, q_2, q_3, q_4, q_5, q_6, q_7, q_8, q_9, q_10, q_11, q_12, q_13, q_14, q_15, q_16, q_17, q_18, q_19, q_20, q_21, q_22, q_23, q_24, q_25, q_26, q_27, q_28, q_29, q_30, q_31, q_32, q_33, q_34, q_35].getD i 0) cy (zkT zkdm zTr i) (zTr.getD i (0, [])).2) H := by
  match i, hi with
  | 0, _ => exact hP 0 _ rfl
  | 1, _ => exact hP 1 _ rfl
  | 2, _ => exact hP 2 _ rfl
  | 3, _ => exact hP 3 _ rfl
  | 4, _ =>
    show va_at D vwCl ((fun i => [h0, q_1, q_2, q_3, q_4, q_5, q_6, q_7, q_8, q_9, q_10, q_11, q_12, q_13, q_14, q_15, q_16, q_17, q_18, q_19, q_20, q_21, q_22, q_23, q_24, q_25, q_26, q_27, q_28, q_29, q_30, q_31, q_32, q_33, q_34, q_35].getD i 0) 4, .inl (cy 0, 4, .inl (fun j => Int32.ofInt (znv ([.inl (-1)].getD j (.inl 0)))))) H
    rw [upd_v]
    exact hP 4 _ rfl
  | 5, _ => exact hP 5 _ rfl
  | 6, _ => exact hP 6 _ rfl
  | 7, _ => exact hP 7 _ rfl
  | 8, _ => exact hP 8 _ rfl
  | 9, _ => exact hP 9 _ rfl
  | 10, _ => exact hP 10 _ rfl
  | 11, _ => exact hP 11 _ rfl
  | 12, _ => exact hP 12 _ rfl
  | 13, _ => exact hP 13 _ rfl
  | 14, _ => exact hP 14 _ rfl
  | 15, _ => exact hP 15 _ rfl
  | 16, _ => exact hP 16 _ rfl
  | 17, _ => exact hP 17 _ rfl
  | 18, _ => exact hP 18 _ rfl
  | 19, _ => exact hP 19 _ rfl
  | 20, _ => exact hP 20 _ rfl
  | 21, _ => exact hP 21 _ rfl
  | 22, _ => exact hP 22 _ rfl
  | 23, _ => exact hP 23 _ rfl
  | 24, _ => exact hP 24 _ rfl
  | 25, _ => exact hP 25 _ rfl
  | 26, _ => exact hP 26 _ rfl
  | 27, _ => exact hP 27 _ rfl
  | 28, _ => exact hP 28 _ rfl
  | 29, _ => exact hP 29 _ rfl
  | 30, _ => exact hP 30 _ rfl
  | 31, _ => exact hP 31 _ rfl
  | 32, _ => exact hP 32 _ rfl
  | 33, _ => exact hP 33 _ rfl
  | 34, _ => exact hP 34 _ rfl
  | 35, _ => exact hP 35 _ rfl
  | i + 36, hi => exact absurd hi (by show ¬ (i + 36 < 36); omega)
set_option maxHeartbeats 4000000 in
set_option maxRecDepth 100000 in
theorem zi0_at {D : va_G} {cy : Nat → ClassId} {h0 q_1 q_6 q_7 q_8 q_9 q_14 q_15 q_16 q_17 q_18 q_19 q_20 q_21 q_26 q_27 q_28 q_29 q_30 q_31 q_32 q_33 q_34 q_39 q_40 q_41 q_46 q_47 q_48 q_49 q_54 q_55 q_56 q_57 q_58 q_63 q_64 q_65 q_66 : Nat} {H : Heap} (hP : va_P D vwCl [(h0, .inr (9, [.ref q_1, .ref q_7, .ref q_8, .ref q_33, .ref q_48, .int 0, .int (-1)])), (q_1, .inr (8, [.ref q_6, .int 0])), (q_6, .inl (cy 1, 600, .inl (fun _ => 0))), (q_7, .inl (cy 0, 3, .inl (fun _ => 0))), (q_8, .inl (cy 3, 2, .inr (.inr (.inr (.inr (ar2 q_9 q_21)))))), (q_9, .inr (6, [.int 0, .int 0, .int 0, .int 0, .int 0, .ref q_14, .int 0, .ref q_15, .ref q_16, .ref q_17, .int 0, .ref q_18, .ref q_19, .ref q_20, .int 0])), (q_14, .inl (cy 0, 12, .inl (fun _ => 0))), (q_15, .inl (cy 0, 4, .inl (fun _ => 0))), (q_16, .inl (cy 0, 4, .inl (fun _ => 0))), (q_17, .inl (cy 0, 4, .inl (fun _ => 0))), (q_18, .inl (cy 0, 6, .inl (fun _ => 0))), (q_19, .inl (cy 0, 6, .inl (fun _ => 0))), (q_20, .inl (cy 0, 6, .inl (fun _ => 0))), (q_21, .inr (6, [.int 0, .int 0, .int 0, .int 0, .int 0, .ref q_26, .int 0, .ref q_27, .ref q_28, .ref q_29, .int 0, .ref q_30, .ref q_31, .ref q_32, .int 0])), (q_26, .inl (cy 0, 12, .inl (fun _ => 0))), (q_27, .inl (cy 0, 4, .inl (fun _ => 0))), (q_28, .inl (cy 0, 4, .inl (fun _ => 0))), (q_29, .inl (cy 0, 4, .inl (fun _ => 0))), (q_30, .inl (cy 0, 6, .inl (fun _ => 0))), (q_31, .inl (cy 0, 6, .inl (fun _ => 0))), (q_32, .inl (cy 0, 6, .inl (fun _ => 0))), (q_33, .inl (cy 4, 2, .inr (.inr (.inr (.inr (ar2 q_34 q_41)))))), (q_34, .inr (1, [.int 0, .ref q_39, .ref q_40])), (q_39, .inl (cy 0, 30, .inl (fun _ => 0))), (q_40, .inl (cy 0, 90, .inl (fun _ => 0))), (q_41, .inr (1, [.int 0, .ref q_46, .ref q_47])), (q_46, .inl (cy 0, 30, .inl (fun _ => 0))), (q_47, .inl (cy 0, 90, .inl (fun _ => 0))), (q_48, .inl (cy 5, 2, .inr (.inr (.inr (.inr (ar2 q_49 q_58)))))), (q_49, .inr (2, [.int 0, .ref q_54, .ref q_55, .int 0, .ref q_56, .ref q_57])), (q_54, .inl (cy 0, 9, .inl (fun _ => 0))), (q_55, .inl (cy 0, 9, .inl (fun _ => 0))), (q_56, .inl (cy 0, 16, .inl (fun _ => 0))), (q_57, .inl (cy 0, 16, .inl (fun _ => 0))), (q_58, .inr (2, [.int 0, .ref q_63, .ref q_64, .int 0, .ref q_65, .ref q_66])), (q_63, .inl (cy 0, 9, .inl (fun _ => 0))), (q_64, .inl (cy 0, 9, .inl (fun _ => 0))), (q_65, .inl (cy 0, 16, .inl (fun _ => 0))), (q_66, .inl (cy 0, 16, .inl (fun _ => 0)))] H) (i : Nat) (hi : i < zTi0.length) : va_at D vwCl ((fun i => [h0, q_1, q_6, q_7, q_8, q_9, q_14, q_15, q_16, q_17, q_18, q_19, q_20, q_21, q_26, q_27, q_28, q_29, q_30, q_31, q_32, q_33, q_34, q_39, q_40, q_41, q_46, q_47, q_48, q_49, q_54, q_55, q_56, q_57, q_58, q_63, q_64, q_65, q_66].getD i 0) i, zEv (fun i => [h0, q_1, q_6, q_7, q_8, q_9, q_14, q_15, q_16, q_17, q_18, q_19, q_20, q_21, q_26, q_27, q_28, q_29, q_30, q_31, q_32, q_33, q_34, q_39, q_40, q_41, q_46, q_47, q_48, q_49, q_54, q_55, q_56, q_57, q_58, q_63, q_64, q_65, q_66].getD i 0) cy (zkT zkds zTi0 i) (zTi0.getD i (0, [])).2) H := by
  match i, hi with
  | 0, _ => exact hP 0 _ rfl
  | 1, _ => exact hP 1 _ rfl
  | 2, _ => exact hP 2 _ rfl
  | 3, _ => exact hP 3 _ rfl
  | 4, _ =>
    show va_at D vwCl ((fun i => [h0, q_1, q_6, q_7, q_8, q_9, q_14, q_15, q_16, q_17, q_18, q_19, q_20, q_21, q_26, q_27, q_28, q_29, q_30, q_31, q_32, q_33, q_34, q_39, q_40, q_41, q_46, q_47, q_48, q_49, q_54, q_55, q_56, q_57, q_58, q_63, q_64, q_65, q_66].getD i 0) 4, .inl (cy 3, 2, .inr (.inr (.inr (.inr (fun k => zrv (fun i => [h0, q_1, q_6, q_7, q_8, q_9, q_14, q_15, q_16, q_17, q_18, q_19, q_20, q_21, q_26, q_27, q_28, q_29, q_30, q_31, q_32, q_33, q_34, q_39, q_40, q_41, q_46, q_47, q_48, q_49, q_54, q_55, q_56, q_57, q_58, q_63, q_64, q_65, q_66].getD i 0) ([.inr 5, .inr 13].getD k (.inl (-1))))))))) H
    rw [ar2_v]
    exact hP 4 _ rfl
  | 5, _ => exact hP 5 _ rfl
  | 6, _ => exact hP 6 _ rfl
  | 7, _ => exact hP 7 _ rfl
  | 8, _ => exact hP 8 _ rfl
  | 9, _ => exact hP 9 _ rfl
  | 10, _ => exact hP 10 _ rfl
  | 11, _ => exact hP 11 _ rfl
  | 12, _ => exact hP 12 _ rfl
  | 13, _ => exact hP 13 _ rfl
  | 14, _ => exact hP 14 _ rfl
  | 15, _ => exact hP 15 _ rfl
  | 16, _ => exact hP 16 _ rfl
  | 17, _ => exact hP 17 _ rfl
  | 18, _ => exact hP 18 _ rfl
  | 19, _ => exact hP 19 _ rfl
  | 20, _ => exact hP 20 _ rfl
  | 21, _ =>
    show va_at D vwCl ((fun i => [h0, q_1, q_6, q_7, q_8, q_9, q_14, q_15, q_16, q_17, q_18, q_19, q_20, q_21, q_26, q_27, q_28, q_29, q_30, q_31, q_32, q_33, q_34, q_39, q_40, q_41, q_46, q_47, q_48, q_49, q_54, q_55, q_56, q_57, q_58, q_63, q_64, q_65, q_66].getD i 0) 21, .inl (cy 4, 2, .inr (.inr (.inr (.inr (fun k => zrv (fun i => [h0, q_1, q_6, q_7, q_8, q_9, q_14, q_15, q_16, q_17, q_18, q_19, q_20, q_21, q_26, q_27, q_28, q_29, q_30, q_31, q_32, q_33, q_34, q_39, q_40, q_41, q_46, q_47, q_48, q_49, q_54, q_55, q_56, q_57, q_58, q_63, q_64, q_65, q_66].getD i 0) ([.inr 22, .inr 25].getD k (.inl (-1))))))))) H
    rw [ar2_v]
    exact hP 21 _ rfl
  | 22, _ => exact hP 22 _ rfl
  | 23, _ => exact hP 23 _ rfl
  | 24, _ => exact hP 24 _ rfl
  | 25, _ => exact hP 25 _ rfl
  | 26, _ => exact hP 26 _ rfl
  | 27, _ => exact hP 27 _ rfl
  | 28, _ =>
    show va_at D vwCl ((fun i => [h0, q_1, q_6, q_7, q_8, q_9, q_14, q_15, q_16, q_17, q_18, q_19, q_20, q_21, q_26, q_27, q_28, q_29, q_30, q_31, q_32, q_33, q_34, q_39, q_40, q_41, q_46, q_47, q_48, q_49, q_54, q_55, q_56, q_57, q_58, q_63, q_64, q_65, q_66].getD i 0) 28, .inl (cy 5, 2, .inr (.inr (.inr (.inr (fun k => zrv (fun i => [h0, q_1, q_6, q_7, q_8, q_9, q_14, q_15, q_16, q_17, q_18, q_19, q_20, q_21, q_26, q_27, q_28, q_29, q_30, q_31, q_32, q_33, q_34, q_39, q_40, q_41, q_46, q_47, q_48, q_49, q_54, q_55, q_56, q_57, q_58, q_63, q_64, q_65, q_66].getD i 0) ([.inr 29, .inr 34].getD k (.inl (-1))))))))) H
    rw [ar2_v]
    exact hP 28 _ rfl
  | 29, _ => exact hP 29 _ rfl
  | 30, _ => exact hP 30 _ rfl
  | 31, _ => exact hP 31 _ rfl
  | 32, _ => exact hP 32 _ rfl
  | 33, _ => exact hP 33 _ rfl
  | 34, _ => exact hP 34 _ rfl
  | 35, _ => exact hP 35 _ rfl
  | 36, _ => exact hP 36 _ rfl
  | 37, _ => exact hP 37 _ rfl
  | 38, _ => exact hP 38 _ rfl
  | i + 39, hi => exact absurd hi (by show ¬ (i + 39 < 39); omega)
set_option maxHeartbeats 4000000 in
set_option maxRecDepth 100000 in
theorem zi1_at {D : va_G} {cy : Nat → ClassId} {h0 q_1 q_6 q_7 q_8 q_9 q_14 q_15 q_16 q_17 q_18 q_19 q_20 q_21 q_26 q_27 q_28 q_29 q_30 q_31 q_32 q_33 q_34 q_39 q_40 q_41 q_46 q_47 q_48 q_49 q_54 q_55 q_56 q_57 q_58 q_63 q_64 q_65 q_66 : Nat} {H : Heap} (hP : va_P D vwCl [(h0, .inr (9, [.ref q_1, .ref q_7, .ref q_8, .ref q_33, .ref q_48, .int 0, .int (-1)])), (q_1, .inr (8, [.ref q_6, .int 0])), (q_6, .inl (cy 1, 600, .inl (fun _ => 0))), (q_7, .inl (cy 0, 3, .inl (fun _ => 0))), (q_8, .inl (cy 3, 2, .inr (.inr (.inr (.inr (ar2 q_9 q_21)))))), (q_9, .inr (6, [.int 0, .int 0, .int 0, .int 0, .int 0, .ref q_14, .int 0, .ref q_15, .ref q_16, .ref q_17, .int 0, .ref q_18, .ref q_19, .ref q_20, .int 0])), (q_14, .inl (cy 0, 12, .inl (fun _ => 0))), (q_15, .inl (cy 0, 4, .inl (fun _ => 0))), (q_16, .inl (cy 0, 4, .inl (fun _ => 0))), (q_17, .inl (cy 0, 4, .inl (fun _ => 0))), (q_18, .inl (cy 0, 6, .inl (fun _ => 0))), (q_19, .inl (cy 0, 6, .inl (fun _ => 0))), (q_20, .inl (cy 0, 6, .inl (fun _ => 0))), (q_21, .inr (6, [.int 0, .int 0, .int 0, .int 0, .int 0, .ref q_26, .int 0, .ref q_27, .ref q_28, .ref q_29, .int 0, .ref q_30, .ref q_31, .ref q_32, .int 0])), (q_26, .inl (cy 0, 12, .inl (fun _ => 0))), (q_27, .inl (cy 0, 4, .inl (fun _ => 0))), (q_28, .inl (cy 0, 4, .inl (fun _ => 0))), (q_29, .inl (cy 0, 4, .inl (fun _ => 0))), (q_30, .inl (cy 0, 6, .inl (fun _ => 0))), (q_31, .inl (cy 0, 6, .inl (fun _ => 0))), (q_32, .inl (cy 0, 6, .inl (fun _ => 0))), (q_33, .inl (cy 4, 2, .inr (.inr (.inr (.inr (ar2 q_34 q_41)))))), (q_34, .inr (1, [.int 0, .ref q_39, .ref q_40])), (q_39, .inl (cy 0, 30, .inl (fun _ => 0))), (q_40, .inl (cy 0, 90, .inl (fun _ => 0))), (q_41, .inr (1, [.int 0, .ref q_46, .ref q_47])), (q_46, .inl (cy 0, 30, .inl (fun _ => 0))), (q_47, .inl (cy 0, 90, .inl (fun _ => 0))), (q_48, .inl (cy 5, 2, .inr (.inr (.inr (.inr (ar2 q_49 q_58)))))), (q_49, .inr (2, [.int 0, .ref q_54, .ref q_55, .int 0, .ref q_56, .ref q_57])), (q_54, .inl (cy 0, 9, .inl (fun _ => 0))), (q_55, .inl (cy 0, 9, .inl (fun _ => 0))), (q_56, .inl (cy 0, 16, .inl (fun _ => 0))), (q_57, .inl (cy 0, 16, .inl (fun _ => 0))), (q_58, .inr (2, [.int 0, .ref q_63, .ref q_64, .int 0, .ref q_65, .ref q_66])), (q_63, .inl (cy 0, 9, .inl (fun _ => 0))), (q_64, .inl (cy 0, 9, .inl (fun _ => 0))), (q_65, .inl (cy 0, 16, .inl (fun _ => 0))), (q_66, .inl (cy 0, 16, .inl (fun _ => 0)))] H) (i : Nat) (hi : i < zTi1.length) : va_at D vwCl ((fun i => [h0, q_1, q_6, q_7, q_8, q_9, q_14, q_15, q_16, q_17, q_18, q_19, q_20, q_21, q_26, q_27, q_28, q_29, q_30, q_31, q_32, q_33, q_34, q_39, q_40, q_41, q_46, q_47, q_48, q_49, q_54, q_55, q_56, q_57, q_58, q_63, q_64, q_65, q_66].getD i 0) i, zEv (fun i => [h0, q_1, q_6, q_7, q_8, q_9, q_14, q_15, q_16, q_17, q_18, q_19, q_20, q_21, q_26, q_27, q_28, q_29, q_30, q_31, q_32, q_33, q_34, q_39, q_40, q_41, q_46, q_47, q_48, q_49, q_54, q_55, q_56, q_57, q_58, q_63, q_64, q_65, q_66].getD i 0) cy (zkT zkds zTi1 i) (zTi1.getD i (0, [])).2) H := by
  match i, hi with
  | 0, _ => exact hP 0 _ rfl
  | 1, _ => exact hP 1 _ rfl
  | 2, _ => exact hP 2 _ rfl
  | 3, _ => exact hP 3 _ rfl
  | 4, _ =>
    show va_at D vwCl ((fun i => [h0, q_1, q_6, q_7, q_8, q_9, q_14, q_15, q_16, q_17, q_18, q_19, q_20, q_21, q_26, q_27, q_28, q_29, q_30, q_31, q_32, q_33, q_34, q_39, q_40, q_41, q_46, q_47, q_48, q_49, q_54, q_55, q_56, q_57, q_58, q_63, q_64, q_65, q_66].getD i 0) 4, .inl (cy 3, 2, .inr (.inr (.inr (.inr (fun k => zrv (fun i => [h0, q_1, q_6, q_7, q_8, q_9, q_14, q_15, q_16, q_17, q_18, q_19, q_20, q_21, q_26, q_27, q_28, q_29, q_30, q_31, q_32, q_33, q_34, q_39, q_40, q_41, q_46, q_47, q_48, q_49, q_54, q_55, q_56, q_57, q_58, q_63, q_64, q_65, q_66].getD i 0) ([.inr 5, .inr 13].getD k (.inl (-1))))))))) H
    rw [ar2_v]
    exact hP 4 _ rfl
  | 5, _ => exact hP 5 _ rfl
  | 6, _ => exact hP 6 _ rfl
  | 7, _ => exact hP 7 _ rfl
  | 8, _ => exact hP 8 _ rfl
  | 9, _ => exact hP 9 _ rfl
  | 10, _ => exact hP 10 _ rfl
  | 11, _ => exact hP 11 _ rfl
  | 12, _ => exact hP 12 _ rfl
  | 13, _ => exact hP 13 _ rfl
  | 14, _ => exact hP 14 _ rfl
  | 15, _ => exact hP 15 _ rfl
  | 16, _ => exact hP 16 _ rfl
  | 17, _ => exact hP 17 _ rfl
  | 18, _ => exact hP 18 _ rfl
  | 19, _ => exact hP 19 _ rfl
  | 20, _ => exact hP 20 _ rfl
  | 21, _ =>
    show va_at D vwCl ((fun i => [h0, q_1, q_6, q_7, q_8, q_9, q_14, q_15, q_16, q_17, q_18, q_19, q_20, q_21, q_26, q_27, q_28, q_29, q_30, q_31, q_32, q_33, q_34, q_39, q_40, q_41, q_46, q_47, q_48, q_49, q_54, q_55, q_56, q_57, q_58, q_63, q_64, q_65, q_66].getD i 0) 21, .inl (cy 4, 2, .inr (.inr (.inr (.inr (fun k => zrv (fun i => [h0, q_1, q_6, q_7, q_8, q_9, q_14, q_15, q_16, q_17, q_18, q_19, q_20, q_21, q_26, q_27, q_28, q_29, q_30, q_31, q_32, q_33, q_34, q_39, q_40, q_41, q_46, q_47, q_48, q_49, q_54, q_55, q_56, q_57, q_58, q_63, q_64, q_65, q_66].getD i 0) ([.inr 22, .inr 25].getD k (.inl (-1))))))))) H
    rw [ar2_v]
    exact hP 21 _ rfl
  | 22, _ => exact hP 22 _ rfl
  | 23, _ => exact hP 23 _ rfl
  | 24, _ => exact hP 24 _ rfl
  | 25, _ => exact hP 25 _ rfl
  | 26, _ => exact hP 26 _ rfl
  | 27, _ => exact hP 27 _ rfl
  | 28, _ =>
    show va_at D vwCl ((fun i => [h0, q_1, q_6, q_7, q_8, q_9, q_14, q_15, q_16, q_17, q_18, q_19, q_20, q_21, q_26, q_27, q_28, q_29, q_30, q_31, q_32, q_33, q_34, q_39, q_40, q_41, q_46, q_47, q_48, q_49, q_54, q_55, q_56, q_57, q_58, q_63, q_64, q_65, q_66].getD i 0) 28, .inl (cy 5, 2, .inr (.inr (.inr (.inr (fun k => zrv (fun i => [h0, q_1, q_6, q_7, q_8, q_9, q_14, q_15, q_16, q_17, q_18, q_19, q_20, q_21, q_26, q_27, q_28, q_29, q_30, q_31, q_32, q_33, q_34, q_39, q_40, q_41, q_46, q_47, q_48, q_49, q_54, q_55, q_56, q_57, q_58, q_63, q_64, q_65, q_66].getD i 0) ([.inr 29, .inr 34].getD k (.inl (-1))))))))) H
    rw [ar2_v]
    exact hP 28 _ rfl
  | 29, _ => exact hP 29 _ rfl
  | 30, _ => exact hP 30 _ rfl
  | 31, _ => exact hP 31 _ rfl
  | 32, _ => exact hP 32 _ rfl
  | 33, _ => exact hP 33 _ rfl
  | 34, _ => exact hP 34 _ rfl
  | 35, _ => exact hP 35 _ rfl
  | 36, _ => exact hP 36 _ rfl
  | 37, _ => exact hP 37 _ rfl
  | 38, _ => exact hP 38 _ rfl
  | i + 39, hi => exact absurd hi (by show ¬ (i + 39 < 39); omega)
set_option maxHeartbeats 4000000 in
set_option maxRecDepth 100000 in
theorem zi2_at {D : va_G} {cy : Nat → ClassId} {h0 q_1 q_6 q_7 q_8 q_9 q_14 q_15 q_16 q_17 q_18 q_19 q_20 q_21 q_26 q_27 q_28 q_29 q_30 q_31 q_32 q_33 q_34 q_39 q_40 q_41 q_46 q_47 q_48 q_49 q_54 q_55 q_56 q_57 q_58 q_63 q_64 q_65 q_66 : Nat} {H : Heap} (hP : va_P D vwCl [(h0, .inr (9, [.ref q_1, .ref q_7, .ref q_8, .ref q_33, .ref q_48, .int 0, .int (-1)])), (q_1, .inr (8, [.ref q_6, .int 0])), (q_6, .inl (cy 1, 600, .inl (fun _ => 0))), (q_7, .inl (cy 0, 3, .inl (fun _ => 0))), (q_8, .inl (cy 3, 2, .inr (.inr (.inr (.inr (ar2 q_9 q_21)))))), (q_9, .inr (6, [.int 0, .int 0, .int 0, .int 0, .int 0, .ref q_14, .int 0, .ref q_15, .ref q_16, .ref q_17, .int 0, .ref q_18, .ref q_19, .ref q_20, .int 0])), (q_14, .inl (cy 0, 12, .inl (fun _ => 0))), (q_15, .inl (cy 0, 4, .inl (fun _ => 0))), (q_16, .inl (cy 0, 4, .inl (fun _ => 0))), (q_17, .inl (cy 0, 4, .inl (fun _ => 0))), (q_18, .inl (cy 0, 6, .inl (fun _ => 0))), (q_19, .inl (cy 0, 6, .inl (fun _ => 0))), (q_20, .inl (cy 0, 6, .inl (fun _ => 0))), (q_21, .inr (6, [.int 0, .int 0, .int 0, .int 0, .int 0, .ref q_26, .int 0, .ref q_27, .ref q_28, .ref q_29, .int 0, .ref q_30, .ref q_31, .ref q_32, .int 0])), (q_26, .inl (cy 0, 12, .inl (fun _ => 0))), (q_27, .inl (cy 0, 4, .inl (fun _ => 0))), (q_28, .inl (cy 0, 4, .inl (fun _ => 0))), (q_29, .inl (cy 0, 4, .inl (fun _ => 0))), (q_30, .inl (cy 0, 6, .inl (fun _ => 0))), (q_31, .inl (cy 0, 6, .inl (fun _ => 0))), (q_32, .inl (cy 0, 6, .inl (fun _ => 0))), (q_33, .inl (cy 4, 2, .inr (.inr (.inr (.inr (ar2 q_34 q_41)))))), (q_34, .inr (1, [.int 0, .ref q_39, .ref q_40])), (q_39, .inl (cy 0, 30, .inl (fun _ => 0))), (q_40, .inl (cy 0, 90, .inl (fun _ => 0))), (q_41, .inr (1, [.int 0, .ref q_46, .ref q_47])), (q_46, .inl (cy 0, 30, .inl (fun _ => 0))), (q_47, .inl (cy 0, 90, .inl (fun _ => 0))), (q_48, .inl (cy 5, 2, .inr (.inr (.inr (.inr (ar2 q_49 q_58)))))), (q_49, .inr (2, [.int 0, .ref q_54, .ref q_55, .int 0, .ref q_56, .ref q_57])), (q_54, .inl (cy 0, 9, .inl (fun _ => 0))), (q_55, .inl (cy 0, 9, .inl (fun _ => 0))), (q_56, .inl (cy 0, 16, .inl (fun _ => 0))), (q_57, .inl (cy 0, 16, .inl (fun _ => 0))), (q_58, .inr (2, [.int 0, .ref q_63, .ref q_64, .int 0, .ref q_65, .ref q_66])), (q_63, .inl (cy 0, 9, .inl (fun _ => 0))), (q_64, .inl (cy 0, 9, .inl (fun _ => 0))), (q_65, .inl (cy 0, 16, .inl (fun _ => 0))), (q_66, .inl (cy 0, 16, .inl (fun _ => 0)))] H) (i : Nat) (hi : i < zTi2.length) : va_at D vwCl ((fun i => [h0, q_1, q_6, q_7, q_8, q_9, q_14, q_15, q_16, q_17, q_18, q_19, q_20, q_21, q_26, q_27, q_28, q_29, q_30, q_31, q_32, q_33, q_34, q_39, q_40, q_41, q_46, q_47, q_48, q_49, q_54, q_55, q_56, q_57, q_58, q_63, q_64, q_65, q_66].getD i 0) i, zEv (fun i => [h0, q_1, q_6, q_7, q_8, q_9, q_14, q_15, q_16, q_17, q_18, q_19, q_20, q_21, q_26, q_27, q_28, q_29, q_30, q_31, q_32, q_33, q_34, q_39, q_40, q_41, q_46, q_47, q_48, q_49, q_54, q_55, q_56, q_57, q_58, q_63, q_64, q_65, q_66].getD i 0) cy (zkT zkds zTi2 i) (zTi2.getD i (0, [])).2) H := by
  match i, hi with
  | 0, _ => exact hP 0 _ rfl
  | 1, _ => exact hP 1 _ rfl
  | 2, _ => exact hP 2 _ rfl
  | 3, _ => exact hP 3 _ rfl
  | 4, _ =>
    show va_at D vwCl ((fun i => [h0, q_1, q_6, q_7, q_8, q_9, q_14, q_15, q_16, q_17, q_18, q_19, q_20, q_21, q_26, q_27, q_28, q_29, q_30, q_31, q_32, q_33, q_34, q_39, q_40, q_41, q_46, q_47, q_48, q_49, q_54, q_55, q_56, q_57, q_58, q_63, q_64, q_65, q_66].getD i 0) 4, .inl (cy 3, 2, .inr (.inr (.inr (.inr (fun k => zrv (fun i => [h0, q_1, q_6, q_7, q_8, q_9, q_14, q_15, q_16, q_17, q_18, q_19, q_20, q_21, q_26, q_27, q_28, q_29, q_30, q_31, q_32, q_33, q_34, q_39, q_40, q_41, q_46, q_47, q_48, q_49, q_54, q_55, q_56, q_57, q_58, q_63, q_64, q_65, q_66].getD i 0) ([.inr 5, .inr 13].getD k (.inl (-1))))))))) H
    rw [ar2_v]
    exact hP 4 _ rfl
  | 5, _ => exact hP 5 _ rfl
  | 6, _ => exact hP 6 _ rfl
  | 7, _ => exact hP 7 _ rfl
  | 8, _ => exact hP 8 _ rfl
  | 9, _ => exact hP 9 _ rfl
  | 10, _ => exact hP 10 _ rfl
  | 11, _ => exact hP 11 _ rfl
  | 12, _ => exact hP 12 _ rfl
  | 13, _ => exact hP 13 _ rfl
  | 14, _ => exact hP 14 _ rfl
  | 15, _ => exact hP 15 _ rfl
  | 16, _ => exact hP 16 _ rfl
  | 17, _ => exact hP 17 _ rfl
  | 18, _ => exact hP 18 _ rfl
  | 19, _ => exact hP 19 _ rfl
  | 20, _ => exact hP 20 _ rfl
  | 21, _ =>
    show va_at D vwCl ((fun i => [h0, q_1, q_6, q_7, q_8, q_9, q_14, q_15, q_16, q_17, q_18, q_19, q_20, q_21, q_26, q_27, q_28, q_29, q_30, q_31, q_32, q_33, q_34, q_39, q_40, q_41, q_46, q_47, q_48, q_49, q_54, q_55, q_56, q_57, q_58, q_63, q_64, q_65, q_66].getD i 0) 21, .inl (cy 4, 2, .inr (.inr (.inr (.inr (fun k => zrv (fun i => [h0, q_1, q_6, q_7, q_8, q_9, q_14, q_15, q_16, q_17, q_18, q_19, q_20, q_21, q_26, q_27, q_28, q_29, q_30, q_31, q_32, q_33, q_34, q_39, q_40, q_41, q_46, q_47, q_48, q_49, q_54, q_55, q_56, q_57, q_58, q_63, q_64, q_65, q_66].getD i 0) ([.inr 22, .inr 25].getD k (.inl (-1))))))))) H
    rw [ar2_v]
    exact hP 21 _ rfl
  | 22, _ => exact hP 22 _ rfl
  | 23, _ => exact hP 23 _ rfl
  | 24, _ => exact hP 24 _ rfl
  | 25, _ => exact hP 25 _ rfl
  | 26, _ => exact hP 26 _ rfl
  | 27, _ => exact hP 27 _ rfl
  | 28, _ =>
    show va_at D vwCl ((fun i => [h0, q_1, q_6, q_7, q_8, q_9, q_14, q_15, q_16, q_17, q_18, q_19, q_20, q_21, q_26, q_27, q_28, q_29, q_30, q_31, q_32, q_33, q_34, q_39, q_40, q_41, q_46, q_47, q_48, q_49, q_54, q_55, q_56, q_57, q_58, q_63, q_64, q_65, q_66].getD i 0) 28, .inl (cy 5, 2, .inr (.inr (.inr (.inr (fun k => zrv (fun i => [h0, q_1, q_6, q_7, q_8, q_9, q_14, q_15, q_16, q_17, q_18, q_19, q_20, q_21, q_26, q_27, q_28, q_29, q_30, q_31, q_32, q_33, q_34, q_39, q_40, q_41, q_46, q_47, q_48, q_49, q_54, q_55, q_56, q_57, q_58, q_63, q_64, q_65, q_66].getD i 0) ([.inr 29, .inr 34].getD k (.inl (-1))))))))) H
    rw [ar2_v]
    exact hP 28 _ rfl
  | 29, _ => exact hP 29 _ rfl
  | 30, _ => exact hP 30 _ rfl
  | 31, _ => exact hP 31 _ rfl
  | 32, _ => exact hP 32 _ rfl
  | 33, _ => exact hP 33 _ rfl
  | 34, _ => exact hP 34 _ rfl
  | 35, _ => exact hP 35 _ rfl
  | 36, _ => exact hP 36 _ rfl
  | 37, _ => exact hP 37 _ rfl
  | 38, _ => exact hP 38 _ rfl
  | i + 39, hi => exact absurd hi (by show ¬ (i + 39 < 39); omega)
end
