variable {η : zRn}
/-! names of cells: a table over another one -/
def zηx (n : Nat) (cd AD : Nat → Nat) (η : zRn) : zRn := (fun a => match (List.range n).find? (fun i => cd i == a) with
  | some i => AD i
  | none => η.1 a, fun q => match (List.range n).find? (fun i => AD i == q) with
  | some i => cd i
  | none => η.2 q)
/-! new cells by a pattern: kinds, contents; a reference names a cell of the pattern -/
abbrev zTm : Type := List (Nat × List (Int ⊕ Nat))
def zval (cd : Nat → Nat) : Int ⊕ Nat → Int
  | .inl v => v
  | .inr i => (cd i : Int)
def zdf0 (K : zKD) : Int ⊕ Nat := if K.1 = 2 then .inl (-1) else .inl 0
def zkT (kds : List zKD) (T : zTm) (i : Nat) : zKD := kds.getD (T.getD i (0, [])).1 (0, 0, 0, [])
def zct (kds : List zKD) (T : zTm) (cd : Nat → Nat) (i j : Nat) : Int := zval cd ((T.getD i (0, [])).2.getD j (zdf0 (zkT kds T i)))
def zokv (t : Nat) (v : Int) : Bool := match t with
  | 0 => decide (-2147483648 ≤ v) && decide (v ≤ 2147483647)
  | 1 => decide (-9223372036854775808 ≤ v) && decide (v ≤ 9223372036854775807)
  | _ + 2 => decide (v = -1)
def zokj (T : zTm) (K : zKD) (vs : List (Int ⊕ Nat)) (j : Nat) : Bool := match vs.getD j (zdf0 K) with
  | .inl v => zokv (zty K j).1 v && decide ((zty K j).2.1 ≤ v) && decide (v ≤ (zty K j).2.2)
  | .inr i => (match T[i]? with
    | none => false
    | some r => decide ((zty K j).1 = r.1 + 2)) && decide ((zty K j).2.1 ≤ 0) && decide (1000000 ≤ (zty K j).2.2)
def zokT (kds : List zKD) (T : zTm) : Bool := T.all (fun q => match kds[q.1]? with
  | none => false
  | some K => decide (K.1 ≤ 2) && (List.range K.2.2.1).all (zokj T K q.2))
def zTh (T : zTm) (cd : Nat → Nat) (Θ : Nat → Option Nat) (a : Nat) : Option Nat := match (List.range T.length).find? (fun i => cd i == a) with
  | some i => some (T.getD i (0, [])).1
  | none => Θ a
def zhh (kds : List zKD) (T : zTm) (cd : Nat → Nat) (h : Nat → Nat → Int) (a : Nat) : Nat → Int := match (List.range T.length).find? (fun i => cd i == a) with
  | some i => zct kds T cd i
  | none => h a
def zinj (n : Nat) (cd : Nat → Nat) : Prop := ∀ i j, i < n → j < n → cd i = cd j → i = j
theorem z_fnd {n : Nat} {cd : Nat → Nat} (hj : zinj n cd) {i : Nat} (hi : i < n) : (List.range n).find? (fun k => cd k == cd i) = some i := by
  cases hf : (List.range n).find? (fun k => cd k == cd i) with
  | none =>
    have := List.find?_eq_none.mp hf i (List.mem_range.mpr hi)
    simp at this
  | some k =>
    have h1 := List.find?_some hf
    have h2 := List.mem_range.mp (List.mem_of_find?_eq_some hf)
    simp only [beq_iff_eq] at h1
    rw [hj k i h2 hi h1]
theorem z_fnn {n : Nat} {cd : Nat → Nat} {a : Nat} (h : ∀ i, i < n → cd i ≠ a) : (List.range n).find? (fun k => cd k == a) = none := by
  rw [List.find?_eq_none]
  intro i hi
  simp only [beq_iff_eq]
  exact h i (List.mem_range.mp hi)
theorem zTh_at {T : zTm} {cd : Nat → Nat} {Θ : Nat → Option Nat} (hj : zinj T.length cd) {i : Nat} (hi : i < T.length) : zTh T cd Θ (cd i) = some (T.getD i (0, [])).1 := by
  unfold zTh
  rw [z_fnd hj hi]
theorem zTh_ne {T : zTm} {cd : Nat → Nat} {Θ : Nat → Option Nat} {a : Nat} (h : ∀ i, i < T.length → cd i ≠ a) : zTh T cd Θ a = Θ a := by
  unfold zTh
  rw [z_fnn h]
theorem zhh_at {kds : List zKD} {T : zTm} {cd : Nat → Nat} {h : Nat → Nat → Int} (hj : zinj T.length cd) {i : Nat} (hi : i < T.length) : zhh kds T cd h (cd i) = zct kds T cd i := by
  unfold zhh
  rw [z_fnd hj hi]
theorem zhh_ne {kds : List zKD} {T : zTm} {cd : Nat → Nat} {h : Nat → Nat → Int} {a : Nat} (hn : ∀ i, i < T.length → cd i ≠ a) : zhh kds T cd h a = h a := by
  unfold zhh
  rw [z_fnn hn]
theorem z_okm {Θ Θ' : Nat → Option Nat} {t : Nat} {x : Int} (hm : ∀ a k, Θ a = some k → Θ' a = some k) (h : zok Θ t x) : zok Θ' t x := by
  match t, h with
  | 0, h => exact h
  | 1, h => exact h
  | k + 2, h =>
    rcases h with h | ⟨h1, h2⟩
    · exact Or.inl h
    · exact Or.inr ⟨h1, hm _ _ h2⟩
theorem z_gdT {T : zTm} {i : Nat} {r : Nat × List (Int ⊕ Nat)} (h : T[i]? = some r) : T.getD i (0, []) = r := by
  rw [List.getD_eq_getElem?_getD, h]
  rfl
theorem z_gdT2 {T : zTm} {i : Nat} (h : i < T.length) : T[i]? = some (T.getD i (0, [])) := by
  rw [List.getD_eq_getElem?_getD, List.getElem?_eq_getElem h]
  rfl
theorem zH_app {kds : List zKD} {D : va_G} {cl : List vw_C} {cy : Nat → ClassId} {L : List Nat} {Θ : Nat → Option Nat} {h : Nat → Nat → Int} {H : Heap} {T : zTm} {cd : Nat → Nat} (h21 : ∀ i, i < T.length → η.2 (η.1 (cd i)) = cd i) (hH : zH η kds D cl cy L Θ h H) (hT : zokT kds T = true) (hj : zinj T.length cd) (hlt : ∀ i, i < T.length → cd i < 1000000) (hnew : ∀ i, i < T.length → Θ (cd i) = none) (hL : ∀ i, i < T.length → η.1 (cd i) ∉ L)
    (hP : ∀ i, i < T.length → va_at D cl (η.1 (cd i), zE η cy (zkT kds T i) (zct kds T cd i)) H) : zH η kds D cl cy (L ++ (List.range T.length).map (fun i => η.1 (cd i))) (zTh T cd Θ) (zhh kds T cd h) H := by
  have hold : ∀ q ∈ L, ∀ i, i < T.length → cd i ≠ η.2 q := fun q hq i hi e => hL i hi (by rw [e, hH.2.1 q hq]; exact hq)
  have hmono : ∀ a k, Θ a = some k → zTh T cd Θ a = some k := fun a k ha => by
    rw [zTh_ne (fun i hi e => by rw [← e, hnew i hi] at ha; cases ha)]
    exact ha
  refine ⟨fun k q hk => ?_, fun q hq => ?_, fun a k ha => ?_⟩
  · rw [List.nil_append] at hk
    unfold va_pl at hk
    rw [List.getElem?_map] at hk
    obtain ⟨r, hr, rfl⟩ := Option.map_eq_some_iff.mp hk
    rcases List.mem_append.mp (List.mem_of_getElem? hr) with hr | hr
    · obtain ⟨k2, hk2⟩ := va_pl_get (X := []) (f := zF η kds cy Θ h) hr
      have := hH.1 k2 _ hk2
      have e : zF η kds cy (zTh T cd Θ) (zhh kds T cd h) r = zF η kds cy Θ h r := by
        unfold zF zf
        rw [zTh_ne (hold r hr), zhh_ne (hold r hr)]
      rw [e]
      exact this
    · obtain ⟨i, hi, rfl⟩ := List.mem_map.mp hr
      have hi := List.mem_range.mp hi
      have e : zF η kds cy (zTh T cd Θ) (zhh kds T cd h) (η.1 (cd i)) = zE η cy (zkT kds T i) (zct kds T cd i) := by
        unfold zF zf
        rw [h21 i hi, zTh_at hj hi, zhh_at hj hi]
        rfl
      rw [e]
      exact hP i hi
  · rcases List.mem_append.mp hq with hq | hq
    · exact hH.2.1 q hq
    · obtain ⟨i, hi, rfl⟩ := List.mem_map.mp hq
      rw [h21 i (List.mem_range.mp hi)]
  · by_cases hex : ∃ i, i < T.length ∧ cd i = a
    · obtain ⟨i, hi, rfl⟩ := hex
      rw [zTh_at hj hi] at ha
      cases ha
      have hq := List.all_eq_true.mp hT _ (List.mem_of_getElem? (z_gdT2 hi))
      cases hK : kds[(T.getD i (0, [])).1]? with
      | none => rw [hK] at hq; cases hq
      | some K =>
        rw [hK] at hq
        simp only [Bool.and_eq_true, decide_eq_true_eq] at hq
        have hkT : zkT kds T i = K := by
          unfold zkT
          rw [List.getD_eq_getElem?_getD, hK]
          rfl
        refine ⟨K, rfl, fun _ => ⟨List.mem_append_right _ (List.mem_map.mpr ⟨i, List.mem_range.mpr hi, rfl⟩), h21 i hi⟩, fun j hjK => ?_⟩
        have hv := List.all_eq_true.mp hq.2 j (List.mem_range.mpr hjK)
        rw [zhh_at hj hi]
        unfold zct
        rw [hkT]
        unfold zokj at hv
        split at hv
        · rename_i v ev
          rw [ev]
          simp only [Bool.and_eq_true, decide_eq_true_eq] at hv
          refine ⟨?_, hv.1.2, hv.2⟩
          have h0 := hv.1.1
          show zok _ _ v
          cases ht : (zty K j).1 with
          | zero =>
            rw [ht] at h0
            have : -2147483648 ≤ v ∧ v ≤ 2147483647 := by simpa [zokv] using h0
            exact this
          | succ t =>
            cases t with
            | zero =>
              rw [ht] at h0
              have : -9223372036854775808 ≤ v ∧ v ≤ 9223372036854775807 := by simpa [zokv] using h0
              exact this
            | succ t =>
              rw [ht] at h0
              exact Or.inl (by simpa [zokv] using h0)
        · rename_i i2 ev
          rw [ev]
          simp only [Bool.and_eq_true, decide_eq_true_eq] at hv
          obtain ⟨⟨h0, h1⟩, h2⟩ := hv
          cases hr : T[i2]? with
          | none => rw [hr] at h0; cases h0
          | some r =>
            rw [hr] at h0
            have h0 := of_decide_eq_true h0
            have hi2 : i2 < T.length := (List.getElem?_eq_some_iff.mp hr).1
            have hl2 := hlt i2 hi2
            refine ⟨?_, ?_, ?_⟩
            · rw [h0]
              refine Or.inr ⟨Int.natCast_nonneg _, ?_⟩
              show zTh T cd Θ ((cd i2 : Int)).toNat = some r.1
              rw [Int.toNat_natCast, zTh_at hj hi2, z_gdT hr]
            · show (zty K j).2.1 ≤ (cd i2 : Int)
              omega
            · show (cd i2 : Int) ≤ (zty K j).2.2
              omega
    · have hne : ∀ i, i < T.length → cd i ≠ a := fun i hi e => hex ⟨i, hi, e⟩
      rw [zTh_ne hne] at ha
      obtain ⟨K, e1, e2, e3⟩ := hH.2.2 a k ha
      refine ⟨K, e1, fun h0 => ⟨List.mem_append_left _ (e2 h0).1, (e2 h0).2⟩, fun j hj2 => ?_⟩
      rw [zhh_ne hne]
      exact ⟨z_okm hmono (e3 j hj2).1, (e3 j hj2).2⟩
/-! the same with addresses -/
def zdv (AD : Nat → Nat) (t : Nat) : Int ⊕ Nat → Value
  | .inl v => (match t with
    | 0 => .int (Int32.ofInt v)
    | 1 => .long (Int64.ofInt v)
    | _ + 2 => .null)
  | .inr i => .ref (AD i)
def zrv (AD : Nat → Nat) : Int ⊕ Nat → Option Nat
  | .inl _ => none
  | .inr i => some (AD i)
def znv : Int ⊕ Nat → Int
  | .inl v => v
  | .inr _ => 0
def zEv (AD : Nat → Nat) (cy : Nat → ClassId) (K : zKD) (vs : List (Int ⊕ Nat)) : va_E := match K.1 with
  | 0 => .inr (K.2.1, (List.range K.2.2.1).map (fun j => zdv AD (zty K j).1 (vs.getD j (.inl 0))))
  | 1 => .inl (cy K.2.1, K.2.2.1, .inl (fun j => Int32.ofInt (znv (vs.getD j (.inl 0)))))
  | _ => .inl (cy K.2.1, K.2.2.1, .inr (.inr (.inr (.inr (fun j => zrv AD (vs.getD j (.inl (-1))))))))
def zokx (n : Nat) (K : zKD) (vs : List (Int ⊕ Nat)) : Bool := match K.1 with
  | 0 => true
  | 1 => vs.all (fun w => match w with
    | .inl _ => true
    | .inr _ => false)
  | _ => vs.all (fun w => match w with
    | .inl v => decide (v = -1)
    | .inr i => decide (i < n))
theorem z_dm1 (k : Nat) : zdec η (k + 2) (-1) = .null := by
  unfold zdec zrf
  simp only
  rw [if_pos (by decide)]
  rfl
theorem z_gdd {α : Type} {l : List α} {j : Nat} {d : α} {P : α → Prop} (h : ∀ w ∈ l, P w) (hd : P d) : P (l.getD j d) := by
  rw [List.getD_eq_getElem?_getD]
  cases hj : l[j]? with
  | none => exact hd
  | some w => exact h w (List.mem_of_getElem? hj)
theorem zE_T {kds : List zKD} {cy : Nat → ClassId} {T : zTm} {cd AD : Nat → Nat} (hT : zokT kds T = true) (hX : T.all (fun q => zokx T.length (kds.getD q.1 (0, 0, 0, [])) q.2) = true) (hA : ∀ i, i < T.length → η.1 (cd i) = AD i) {i : Nat} (hi : i < T.length) :
    zE η cy (zkT kds T i) (zct kds T cd i) = zEv AD cy (zkT kds T i) (T.getD i (0, [])).2 := by
  have hq := List.all_eq_true.mp hT _ (List.mem_of_getElem? (z_gdT2 hi))
  have hx := List.all_eq_true.mp hX _ (List.mem_of_getElem? (z_gdT2 hi))
  change zokx T.length (zkT kds T i) (T.getD i (0, [])).2 = true at hx
  have hK : kds[(T.getD i (0, [])).1]? = some (zkT kds T i) := by
    cases hK : kds[(T.getD i (0, [])).1]? with
    | none => rw [hK] at hq; cases hq
    | some K =>
      unfold zkT
      rw [List.getD_eq_getElem?_getD, hK]
      rfl
  rw [hK] at hq
  unfold zct
  generalize zkT kds T i = K at *
  generalize (T.getD i (0, [])).2 = vs at *
  simp only [Bool.and_eq_true, decide_eq_true_eq] at hq
  unfold zE zEv
  unfold zokx at hx
  cases h0 : K.1 with
  | zero =>
    have hd : zdf0 K = .inl 0 := by unfold zdf0; rw [if_neg (by omega)]
    simp only
    congr 2
    apply List.map_congr_left
    intro j hj
    have hv := List.all_eq_true.mp hq.2 j hj
    unfold zokj at hv
    rw [hd] at hv ⊢
    split at hv
    · rename_i v ev
      rw [ev]
      simp only [Bool.and_eq_true, decide_eq_true_eq] at hv
      have h1 := hv.1.1
      show zdec η (zty K j).1 v = zdv AD (zty K j).1 (.inl v)
      cases ht : (zty K j).1 with
      | zero => rfl
      | succ t =>
        cases t with
        | zero => rfl
        | succ t =>
          rw [ht] at h1
          have e : v = -1 := by simpa [zokv] using h1
          rw [e]
          exact z_dm1 t
    · rename_i i2 ev
      rw [ev]
      simp only [Bool.and_eq_true, decide_eq_true_eq] at hv
      cases hr : T[i2]? with
      | none => rw [hr] at hv; cases hv.1.1
      | some r =>
        rw [hr] at hv
        have e := of_decide_eq_true hv.1.1
        have hi2 : i2 < T.length := (List.getElem?_eq_some_iff.mp hr).1
        show zdec η (zty K j).1 ((cd i2 : Nat) : Int) = .ref (AD i2)
        rw [e, z_dr, hA i2 hi2]
  | succ t =>
    rw [h0] at hx
    cases t with
    | zero =>
      have hd : zdf0 K = .inl 0 := by unfold zdf0; rw [if_neg (by omega)]
      simp only
      congr 4
      funext j
      rw [hd]
      congr 1
      refine z_gdd (P := fun w => zval cd w = znv w) (fun w hw => ?_) rfl
      have := List.all_eq_true.mp hx w hw
      cases w with
      | inl v => rfl
      | inr v => cases this
    | succ t =>
      have h2 : K.1 = 2 := by omega
      have hd : zdf0 K = .inl (-1) := by unfold zdf0; rw [if_pos h2]
      simp only
      congr 7
      funext j
      rw [hd]
      have hm1 : zrf η (zval cd (.inl (-1))) = zrv AD (.inl (-1)) := by
        show zrf η (-1) = none
        unfold zrf
        rw [if_pos (by decide)]
      refine z_gdd (P := fun w => zrf η (zval cd w) = zrv AD w) (fun w hw => ?_) hm1
      have := List.all_eq_true.mp hx w hw
      cases w with
      | inl v =>
        have e : v = -1 := of_decide_eq_true this
        rw [e]
        exact hm1
      | inr i2 =>
        have hi2 : i2 < T.length := of_decide_eq_true this
        show zrf η ((cd i2 : Nat) : Int) = some (AD i2)
        unfold zrf
        rw [if_neg (by omega), Int.toNat_natCast, hA i2 hi2]
/-- new cells, at their addresses -/
theorem zH_new {kds : List zKD} {D : va_G} {cl : List vw_C} {cy : Nat → ClassId} {L : List Nat} {Θ : Nat → Option Nat} {h : Nat → Nat → Int} {H : Heap} {T : zTm} {cd AD : Nat → Nat} (hA : ∀ i, i < T.length → η.1 (cd i) = AD i) (hA2 : ∀ i, i < T.length → η.2 (AD i) = cd i) (hH : zH η kds D cl cy L Θ h H) (hT : zokT kds T = true) (hX : T.all (fun q => zokx T.length (kds.getD q.1 (0, 0, 0, [])) q.2) = true) (hj : zinj T.length cd) (hlt : ∀ i, i < T.length → cd i < 1000000) (hnew : ∀ i, i < T.length → Θ (cd i) = none) (hL : ∀ i, i < T.length → AD i ∉ L)
    (hP : ∀ i, i < T.length → va_at D cl (AD i, zEv AD cy (zkT kds T i) (T.getD i (0, [])).2) H) : zH η kds D cl cy (L ++ (List.range T.length).map AD) (zTh T cd Θ) (zhh kds T cd h) H := by
  have hm : (List.range T.length).map AD = (List.range T.length).map (fun i => η.1 (cd i)) := List.map_congr_left fun i hi => (hA i (List.mem_range.mp hi)).symm
  rw [hm]
  refine zH_app (fun i hi => by rw [hA i hi]; exact hA2 i hi) hH hT hj hlt hnew (fun i hi => ?_) (fun i hi => ?_)
  · rw [hA i hi]
    exact hL i hi
  · rw [hA i hi, zE_T (cd := cd) (AD := AD) hT hX hA hi]
    exact hP i hi
theorem z_ndnew {L : List Nat} {n : Nat} {AD : Nat → Nat} (hn : L.Nodup) (hj : zinj n AD) (hL : ∀ i, i < n → AD i ∉ L) : (L ++ (List.range n).map AD).Nodup := by
  rw [List.nodup_append]
  refine ⟨hn, ?_, fun a ha b hb e => ?_⟩
  · rw [List.nodup_iff_pairwise_ne, List.pairwise_map]
    refine List.Pairwise.imp_of_mem (fun {a b} ha hb hab => ?_) (List.nodup_iff_pairwise_ne.mp List.nodup_range)
    intro e
    exact hab (hj a b (List.mem_range.mp ha) (List.mem_range.mp hb) e)
  · obtain ⟨i, hi, rfl⟩ := List.mem_map.mp hb
    exact hL i (List.mem_range.mp hi) (by rw [← e]; exact ha)
/-- the world stays where its cells stay -/
theorem zH_kept {kds : List zKD} {D : va_G} {cl : List vw_C} {cy : Nat → ClassId} {L : List Nat} {Θ : Nat → Option Nat} {h : Nat → Nat → Int} {H H1 : Heap} (hH : zH η kds D cl cy L Θ h H) (hq : ∀ q ∈ L, H1[q]? = H[q]?) : zH η kds D cl cy L Θ h H1 := by
  refine ⟨hH.1.kept (fun k q hk => ?_), hH.2⟩
  rw [List.nil_append] at hk
  unfold va_pl at hk
  rw [List.getElem?_map] at hk
  obtain ⟨r, hr, rfl⟩ := Option.map_eq_some_iff.mp hk
  exact hq r (List.mem_of_getElem? hr)
theorem zH_lt {kds : List zKD} {D : va_G} {cl : List vw_C} {cy : Nat → ClassId} {L : List Nat} {Θ : Nat → Option Nat} {h : Nat → Nat → Int} {H : Heap} (hH : zH η kds D cl cy L Θ h H) {q : Nat} (hq : q ∈ L) : q < H.size := va_pl_lt hH.1 hq
/-! a table of names -/
theorem zηx1 {n : Nat} {cd AD : Nat → Nat} (hj : zinj n cd) {i : Nat} (hi : i < n) : (zηx n cd AD η).1 (cd i) = AD i := by
  show (match (List.range n).find? (fun k => cd k == cd i) with | some i => AD i | none => η.1 (cd i)) = AD i
  rw [z_fnd hj hi]
theorem zηx2 {n : Nat} {cd AD : Nat → Nat} (hj : zinj n AD) {i : Nat} (hi : i < n) : (zηx n cd AD η).2 (AD i) = cd i := by
  show (match (List.range n).find? (fun k => AD k == AD i) with | some i => cd i | none => η.2 (AD i)) = cd i
  rw [z_fnd hj hi]
theorem zηx1n {n : Nat} {cd AD : Nat → Nat} {a : Nat} (h : ∀ i, i < n → cd i ≠ a) : (zηx n cd AD η).1 a = η.1 a := by
  show (match (List.range n).find? (fun k => cd k == a) with | some i => AD i | none => η.1 a) = η.1 a
  rw [z_fnn h]
theorem zηx2n {n : Nat} {cd AD : Nat → Nat} {q : Nat} (h : ∀ i, i < n → AD i ≠ q) : (zηx n cd AD η).2 q = η.2 q := by
  show (match (List.range n).find? (fun k => AD k == q) with | some i => cd i | none => η.2 q) = η.2 q
  rw [z_fnn h]
/-- other names where the old ones mean the same -/
theorem zH_ren {η η' : zRn} {kds : List zKD} {D : va_G} {cl : List vw_C} {cy : Nat → ClassId} {L : List Nat} {Θ : Nat → Option Nat} {h : Nat → Nat → Int} {H : Heap} (hq : ∀ (k : Nat) (K : zKD), kds[k]? = some K → 2 ≤ K.1 → ∀ j, j < K.2.2.1 → 2 ≤ (zty K j).1) (hH : zH η kds D cl cy L Θ h H) (hT : ∀ q ∈ L, ∃ k, Θ (η.2 q) = some k) (h1 : ∀ a k, Θ a = some k → η'.1 a = η.1 a) (h2 : ∀ q ∈ L, η'.2 q = η.2 q) : zH η' kds D cl cy L Θ h H := by
  obtain ⟨p1, p2, p3⟩ := hH
  have er : ∀ t x, zok Θ (t + 2) x → zrf η' x = zrf η x := by
    intro t x hz
    unfold zrf
    rcases hz with rfl | ⟨z1, z2⟩
    · rw [if_pos (by decide), if_pos (by decide)]
    · rw [if_neg (by omega), if_neg (by omega), h1 _ _ z2]
  have e2 : ∀ t x, zok Θ t x → zdec η' t x = zdec η t x := by
    intro t x hz
    match t, hz with
    | 0, _ => rfl
    | 1, _ => rfl
    | t + 2, hz =>
      show va_rf (zrf η' x) = va_rf (zrf η x)
      rw [er t x hz]
  refine ⟨fun k q hk => ?_, fun q hq => ?_, fun a k ha => ?_⟩
  · rw [List.nil_append] at hk
    unfold va_pl at hk
    rw [List.getElem?_map] at hk
    obtain ⟨r, hr, rfl⟩ := Option.map_eq_some_iff.mp hk
    have hrL := List.mem_of_getElem? hr
    obtain ⟨k2, hk2⟩ := va_pl_get (X := []) (f := zF η kds cy Θ h) hrL
    have h9 := p1 k2 _ hk2
    obtain ⟨kk, ekk⟩ := hT r hrL
    obtain ⟨K, eK, -, eb⟩ := p3 _ _ ekk
    have eF : ∀ η0 : zRn, η0.2 r = η.2 r → zF η0 kds cy Θ h r = zE η0 cy K (h (η.2 r)) := fun η0 e0 => by
      unfold zF zf
      rw [e0, ekk, Option.getD_some, List.getD_eq_getElem?_getD, eK]
      rfl
    rw [eF η rfl] at h9
    rw [eF η' (h2 r hrL)]
    have hq2 := hq _ _ eK
    clear eF
    revert h9
    unfold zE
    cases hK1 : K.1 with
    | zero =>
      simp only
      intro h9
      have e9 : (List.range K.2.2.1).map (fun j => zdec η' (zty K j).1 (h (η.2 r) j)) = (List.range K.2.2.1).map (fun j => zdec η (zty K j).1 (h (η.2 r) j)) := List.map_congr_left fun j hj => e2 _ _ (eb j (List.mem_range.mp hj)).1
      rw [e9]
      exact h9
    | succ t =>
      cases t with
      | zero =>
        simp only
        intro h9
        exact h9
      | succ t =>
        simp only
        intro h9
        have e9 : arrV (cy K.2.1) K.2.2.1 (fun j => va_rf (zrf η' (h (η.2 r) j))) = arrV (cy K.2.1) K.2.2.1 (fun j => va_rf (zrf η (h (η.2 r) j))) := by
          unfold arrV
          congr 2
          funext j
          have h2t := hq2 (by omega) j.val j.isLt
          obtain ⟨t', et⟩ : ∃ t', (zty K j.val).1 = t' + 2 := ⟨(zty K j.val).1 - 2, by omega⟩
          have h8 := (eb j.val j.isLt).1
          rw [et] at h8
          simp only
          rw [er t' _ h8]
        show H[r]? = some (arrV (cy K.2.1) K.2.2.1 (fun j => va_rf (zrf η' (h (η.2 r) j))))
        rw [e9]
        exact h9
  · obtain ⟨k, ek⟩ := hT q hq
    rw [h2 q hq, h1 _ _ ek]
    exact p2 q hq
  · obtain ⟨K, e1, e2, e3⟩ := p3 a k ha
    refine ⟨K, e1, fun hK => ?_, e3⟩
    obtain ⟨m1, m2⟩ := e2 hK
    rw [h1 _ _ ha]
    exact ⟨m1, by rw [h2 _ m1]; exact m2⟩
theorem zkds_q : ∀ (k : Nat) (K : zKD), zkds[k]? = some K → 2 ≤ K.1 → ∀ j, j < K.2.2.1 → 2 ≤ (zty K j).1 := by
  intro k K hK h2 j hj
  have hk : k < 64 := (List.getElem?_eq_some_iff.mp hK).1
  have key : ∀ k : Fin 64, ((zkds[k.1]?).all (fun K => decide (K.1 < 2) || (List.range K.2.2.1).all (fun j => decide (2 ≤ (zty K j).1)))) = true := by decide +kernel
  have := key ⟨k, hk⟩
  simp only at this
  rw [hK] at this
  simp only [Option.all_some, Bool.or_eq_true, decide_eq_true_eq, List.all_eq_true, List.mem_range] at this
  rcases this with w | w
  · omega
  · exact w j hj
