/-! the interpreter's heap in the machine's: addresses, cells, worlds -/
def aAd (base : Nat) (pre : Nat → Nat) (i : Nat) : Nat := if i < 1000 then base + i else pre i
def aVal (ad : Nat → Nat) : Value → Value
  | .ref a => .ref (ad a)
  | v => v
theorem aVal_cat (ad : Nat → Nat) (v : Value) : (aVal ad v).category = v.category := by cases v <;> rfl
def aLv (ad : Nat → Nat) (ls : aLs) : List (Nat × Value) := (List.range ls.length).filterMap (fun i => match ls[i]? with
  | some (some v) => some (i, aVal ad v)
  | _ => none)
theorem aLv_mem {ad : Nat → Nat} {ls : aLs} {q : Nat × Value} : q ∈ aLv ad ls ↔ ∃ v, ls[q.1]? = some (some v) ∧ q.2 = aVal ad v := by
  obtain ⟨i, w⟩ := q
  constructor
  · intro h
    obtain ⟨j, -, hj⟩ := List.mem_filterMap.mp h
    split at hj
    · rename_i v hv
      cases hj
      exact ⟨v, hv, rfl⟩
    · cases hj
  · rintro ⟨v, hv, hw⟩
    refine List.mem_filterMap.mpr ⟨i, List.mem_range.mpr (List.getElem?_eq_some_iff.mp hv).1, ?_⟩
    dsimp only at hv hw
    rw [hv, hw]
theorem aLv_get {ad : Nat → Nat} {ls : aLs} {lsA : Array Slot} {nL i : Nat} {v : Value} (h : lv_has lsA nL (aLv ad ls)) (hi : ls[i]? = some (some v)) : lsA[i]? = some (.val (aVal ad v)) := h.2.2 (i, aVal ad v) (aLv_mem.mpr ⟨v, hi, rfl⟩)
theorem aLv_sub {lsA : Array Slot} {nL : Nat} {l l' : List (Nat × Value)} (h : lv_has lsA nL l) (hs : ∀ q ∈ l', q ∈ l) : lv_has lsA nL l' := ⟨h.1, h.2.1, fun q hq => h.2.2 q (hs q hq)⟩
theorem aPush_spec {v : Value} {ls ls' : aLs} {i : Nat} (h : aPush v ls i = some ls') : i < ls.length ∧ ls' = ls.set i (some v) ∧ (∀ j w, i = j + 1 → ls[j]? = some (some w) → w.category ≠ 2) := by
  unfold aPush at h
  by_cases hi : i < ls.length
  · rw [if_pos hi] at h
    cases i with
    | zero =>
      cases h
      exact ⟨hi, rfl, fun j w e => by omega⟩
    | succ j =>
      dsimp only at h
      cases hj : ls[j]? with
      | none => rw [List.getElem?_eq_none_iff] at hj; omega
      | some o =>
        rw [hj] at h
        cases o with
        | none =>
          cases h
          exact ⟨hi, rfl, fun j' w' e hw' => by obtain rfl : j = j' := by omega
                                                rw [hj] at hw'; cases hw'⟩
        | some w =>
          dsimp only at h
          by_cases hc : w.category = 2
          · rw [if_pos hc] at h; cases h
          · rw [if_neg hc] at h
            cases h
            exact ⟨hi, rfl, fun j' w' e hw' => by obtain rfl : j = j' := by omega
                                                  rw [hj] at hw'; cases hw'; exact hc⟩
  · rw [if_neg hi] at h; cases h
theorem aLv_push {ad : Nat → Nat} {v : Value} {ls ls' : aLs} {i : Nat} (h : aPush v ls i = some ls') : ∀ q ∈ aLv ad ls', q ∈ (i, aVal ad v) :: (aLv ad ls).filter (fun q => !(q.1 == i) && !(q.1 + 1 == i && q.2.category == 2)) := by
  obtain ⟨hi, rfl, hw⟩ := aPush_spec h
  intro q hq
  obtain ⟨w, h1, h2⟩ := aLv_mem.mp hq
  obtain ⟨j, u⟩ := q
  dsimp only at h1 h2
  rw [List.getElem?_set] at h1
  by_cases hj : i = j
  · subst hj
    rw [if_pos rfl, if_pos hi] at h1
    cases h1
    rw [h2]
    exact List.mem_cons_self
  · rw [if_neg hj] at h1
    refine List.mem_cons_of_mem _ (List.mem_filter.mpr ⟨aLv_mem.mpr ⟨w, h1, h2⟩, ?_⟩)
    have hc : ¬ (j + 1 = i ∧ u.category = 2) := fun ⟨e1, e2⟩ => hw j w e1.symm h1 (by rw [← aVal_cat ad w, ← h2]; exact e2)
    simp only [Bool.and_eq_true, Bool.not_eq_true', beq_eq_false_iff_ne, ne_eq, Bool.and_eq_false_imp, beq_iff_eq]
    exact ⟨fun e => hj e.symm, fun e1 e2 => hc ⟨e1, e2⟩⟩
theorem aPush_len {v : Value} {ls ls' : aLs} {i : Nat} (h : aPush v ls i = some ls') : ls'.length = ls.length := by
  obtain ⟨-, rfl, -⟩ := aPush_spec h
  exact List.length_set
/-- kinds of arrays -/
def aAT (kd : Nat) : FieldType := if kd = 20 then .int else if kd = 21 then .byte else .object (aO (aKc kd))
def aCA (U : State) (kd : Nat) : ClassId := (U.vm.findClass ("[" ++ (aAT kd).toString)).getD 0
def aEnc (ad : Nat → Nat) (cA : Nat → ClassId) (I : Nat → Nat → Int32) (P : List (List (Option Nat))) (i : Nat) (q : Nat × Nat) : va_E :=
  if q.1 < 20 then .inr (q.1, (List.range q.2).map (fun k => if aFk q.1 k = 2 then va_rf ((aP P i k).map ad) else .int (I i k)))
  else if q.1 < 22 then .inl (cA q.1, q.2, .inl (I i))
  else .inl (cA q.1, q.2, .inr (.inr (.inr (.inr (fun j => (aP P i j).map ad)))))
def aWs (ad : Nat → Nat) (cA : Nat → ClassId) (H : aH) : va_W := H.1.mapIdx (fun i q => (ad i, aEnc ad cA H.2.1 H.2.2 i q))
def aSz (H : aH) : Nat := (H.1.map (fun q => q.2)).sum
def aA (base : Nat) : Nat → Prop := fun q => base ≤ q
theorem aWs_get {ad : Nat → Nat} {cA : Nat → ClassId} {H : aH} {i : Nat} {q : Nat × Nat} (h : H.1[i]? = some q) : (aWs ad cA H)[i]? = some (ad i, aEnc ad cA H.2.1 H.2.2 i q) := by
  rw [aWs, List.getElem?_mapIdx, h]; rfl
theorem aWs_inv {ad : Nat → Nat} {cA : Nat → ClassId} {H : aH} {i : Nat} {e : Nat × va_E} (h : (aWs ad cA H)[i]? = some e) : ∃ q, H.1[i]? = some q ∧ e = (ad i, aEnc ad cA H.2.1 H.2.2 i q) := by
  rw [aWs, List.getElem?_mapIdx] at h
  cases hq : H.1[i]? with
  | none => rw [hq] at h; cases h
  | some q => rw [hq] at h; cases h; exact ⟨q, rfl, rfl⟩
theorem aWs_D {base : Nat} {pre : Nat → Nat} {cA : Nat → ClassId} {H : aH} (hl : H.1.length ≤ 1000) : va_D (aA base) (aWs (aAd base pre) cA H) := by
  refine ⟨fun i j p q hi hj e => ?_, fun k q hk => ?_⟩
  · obtain ⟨x, hx, rfl⟩ := aWs_inv hi
    obtain ⟨y, hy, rfl⟩ := aWs_inv hj
    have h1 := (List.getElem?_eq_some_iff.mp hx).1
    have h2 := (List.getElem?_eq_some_iff.mp hy).1
    simp only [aAd, if_pos (show i < 1000 by omega), if_pos (show j < 1000 by omega)] at e
    omega
  · obtain ⟨x, hx, rfl⟩ := aWs_inv hk
    have h1 := (List.getElem?_eq_some_iff.mp hx).1
    simp only [aAd, if_pos (show k < 1000 by omega), aA]
    omega
theorem aWs_set {ad : Nat → Nat} {cA : Nat → ClassId} {H : aH} {I : Nat → Nat → Int32} {P : List (List (Option Nat))} {a : Nat} {q : Nat × Nat} (h : H.1[a]? = some q)
    (ho : ∀ i q, i ≠ a → aEnc ad cA I P i q = aEnc ad cA H.2.1 H.2.2 i q) : (aWs ad cA H).set a (ad a, aEnc ad cA I P a q) = aWs ad cA (H.1, I, P) := by
  refine List.ext_getElem? fun i => ?_
  rw [List.getElem?_set, aWs, aWs, List.getElem?_mapIdx, List.getElem?_mapIdx]
  by_cases hi : a = i
  · subst hi
    rw [if_pos rfl, if_pos (by rw [List.length_mapIdx]; exact (List.getElem?_eq_some_iff.mp h).1), h]; rfl
  · rw [if_neg hi]
    dsimp only
    cases hq : H.1[i]? with
    | none => rfl
    | some x => simp only [Option.map_some]; rw [ho i x (fun e => hi e.symm)]
theorem aEnc_int {ad : Nat → Nat} {cA : Nat → ClassId} {I : Nat → Nat → Int32} {P : List (List (Option Nat))} {i a k : Nat} {x : Int32} {q : Nat × Nat} (h : i ≠ a) : aEnc ad cA (aUpd I a k x) P i q = aEnc ad cA I P i q := by
  have : aUpd I a k x i = I i := by funext j; simp [aUpd, h]
  simp only [aEnc, this]
theorem aRange_set {α : Type} {n k : Nat} {f g : Nat → α} {v : α} (hv : g k = v) (ho : ∀ j, j ≠ k → g j = f j) : ((List.range n).map f).set k v = (List.range n).map g := by
  refine List.ext_getElem? fun i => ?_
  rw [List.getElem?_set]
  by_cases hi : k = i
  · subst hi
    rw [if_pos rfl]
    by_cases hk : k < n
    · rw [if_pos (by simpa using hk)]; simp [hk, hv]
    · rw [if_neg (by simpa using hk)]; simp [hk]
  · rw [if_neg hi]
    by_cases hj : i < n
    · simp [hj, ho i (fun e => hi e.symm)]
    · simp [hj]
theorem aSetP_get {P : List (List (Option Nat))} {a f : Nat} {v : Option Nat} (hf : f < (P.getD a []).length) (i j : Nat) : aP (aSetP P a f v) i j = if i = a ∧ j = f then v else aP P i j := by
  have ha : a < P.length := by
    rcases Nat.lt_or_ge a P.length with h | h
    · exact h
    · rw [List.getD_eq_getElem?_getD, List.getElem?_eq_none h] at hf; simp at hf
  unfold aP aSetP
  simp only [List.getD_eq_getElem?_getD, List.getElem?_set]
  by_cases hi : a = i
  · subst hi
    simp only [ha, if_true, if_pos, Option.getD_some, List.getElem?_set]
    by_cases hj : f = j
    · subst hj
      have : f < (P[a]?.getD []).length := by rw [List.getD_eq_getElem?_getD] at hf; exact hf
      simp [this]
    · have : ¬ j = f := fun e => hj e.symm
      simp [hj, this]
  · have : ¬ i = a := fun e => hi e.symm
    simp [hi, this]
theorem aSetP_len {P : List (List (Option Nat))} {a f : Nat} {v : Option Nat} : (aSetP P a f v).length = P.length := by
  unfold aSetP; exact List.length_set
theorem aEnc_ref {ad : Nat → Nat} {cA : Nat → ClassId} {I : Nat → Nat → Int32} {P : List (List (Option Nat))} {i a k : Nat} {x : Option Nat} {q : Nat × Nat} (hk : k < (P.getD a []).length) (h : i ≠ a) : aEnc ad cA I (aSetP P a k x) i q = aEnc ad cA I P i q := by
  have : ∀ j, aP (aSetP P a k x) i j = aP P i j := fun j => by rw [aSetP_get hk, if_neg (fun e => h e.1)]
  simp only [aEnc, this]
/-- a new cell -/
theorem aWs_new {ad : Nat → Nat} {cA : Nat → ClassId} {H : aH} {kd n : Nat} (hP : H.2.2.length = H.1.length) : aWs ad cA (aNew kd n H) = aWs ad cA H ++ [(ad H.1.length, aEnc ad cA (aNew kd n H).2.1 (aNew kd n H).2.2 H.1.length (kd, n))] := by
  have hI : ∀ i, i ≠ H.1.length → (aNew kd n H).2.1 i = H.2.1 i := fun i hi => by funext j; simp [aNew, hi]
  have hPP : ∀ i j, i < H.1.length → aP (aNew kd n H).2.2 i j = aP H.2.2 i j := fun i j hi => by
    simp only [aP, aNew, List.getD_eq_getElem?_getD]
    rw [List.getElem?_append_left (by omega)]
  refine List.ext_getElem? fun i => ?_
  rw [aWs, List.getElem?_mapIdx]
  rcases Nat.lt_trichotomy i H.1.length with hi | hi | hi
  · rw [List.getElem?_append_left (by rw [aWs, List.length_mapIdx]; exact hi), aWs, List.getElem?_mapIdx]
    have : (aNew kd n H).1[i]? = H.1[i]? := by simp only [aNew]; rw [List.getElem?_append_left hi]
    rw [this]
    cases H.1[i]? with
    | none => rfl
    | some q =>
      simp only [Option.map_some]
      have : aEnc ad cA (aNew kd n H).2.1 (aNew kd n H).2.2 i q = aEnc ad cA H.2.1 H.2.2 i q := by
        simp only [aEnc, hI i (by omega)]
        simp only [hPP i _ hi]
      rw [this]
  · subst hi
    rw [List.getElem?_append_right (by rw [aWs, List.length_mapIdx]; exact Nat.le_refl _)]
    simp [aNew, aWs]
  · rw [List.getElem?_append_right (by rw [aWs, List.length_mapIdx]; omega)]
    have h1 : (aNew kd n H).1[i]? = none := by simp only [aNew]; exact List.getElem?_eq_none (by simp; omega)
    have h2 : ([(ad H.1.length, aEnc ad cA (aNew kd n H).2.1 (aNew kd n H).2.2 H.1.length (kd, n))] : va_W)[i - (aWs ad cA H).length]? = none := List.getElem?_eq_none (by rw [aWs, List.length_mapIdx]; simp; omega)
    rw [h1, h2]; rfl
theorem aNew_zero {kd n : Nat} {H : aH} : (aNew kd n H).2.1 H.1.length = fun _ => 0 := by funext j; simp [aNew]
theorem aNew_null {kd n : Nat} {H : aH} (hP : H.2.2.length = H.1.length) (j : Nat) : aP (aNew kd n H).2.2 H.1.length j = none := by
  simp only [aP, aNew, List.getD_eq_getElem?_getD]
  rw [List.getElem?_append_right (by omega), hP]
  simp only [Nat.sub_self, List.getElem?_cons_zero, Option.getD_some]
  split
  · simp
  · rw [List.getElem?_replicate]; split <;> rfl
theorem aSz_new {kd n : Nat} {H : aH} : aSz (aNew kd n H) = aSz H + n := by simp [aSz, aNew]
theorem aNew_len {kd n : Nat} {H : aH} : (aNew kd n H).1.length = H.1.length + 1 := by simp [aNew]
/-- each kind of cell, and what the machine knows of its class -/
def aKd (U : State) (H : aH) (q : Nat × Nat) : Prop := (q.1 < 9 ∧ q.2 = aLen q.1) ∨ (20 ≤ q.1 ∧ q.1 ≤ 24 ∧ ArrOfT U (aCA U q.1) (aAT q.1) ∧ va_RA U (aCA U q.1) (aAT q.1))
/-- the statics and the texts -/
def aGl (base : Nat) (pre : Nat → Nat) (U : State) : Prop :=
  (∀ a, 1000 ≤ a → a < 1003 → va_Z (aSn a).1 (aSn a).2 "[I" (.ref (pre a)) (aA base) U U.heap ∧ ∀ q, aSt none a = some q → va_T .int (pre a) q.1 (fun j => .int (q.2 j)) (aA base) U U.heap)
  ∧ (∀ e ∈ aSr, vk_R (aO e.1) e.2.1 (aTs e.2.2) (pre e.2.2) U)
  ∧ va_Z "java/lang/String" "COMPACT_STRINGS" "Z" (.int 1) (aA base) U U.heap
  ∧ (∀ e ∈ aGn, va_Nw (.fieldLinkNest (aO e.1) e.2.1 (aSn e.2.2).1 (aSn e.2.2).2 "[I" RX7) U) ∧ (∀ e ∈ aIn, va_Nw (.methodLinkNest (aO e.1) e.2.1 (aY e.2.2) RX7) U) ∧ (∀ e ∈ [2, 5, 4], va_AO (aO e) U)
  ∧ vk_S 3 [0, 3, 3] aTx (fun i => pre (2000 + i)) (fun i => pre (2500 + i)) (aA base) U U.heap
theorem aGl.to {base : Nat} {pre : Nat → Nat} {s U : State} (h : aGl base pre s) (hW : s.WarmedH U.vm) (hk : ∀ a : Nat, a < s.heap.size → ¬ aA base a → U.heap[a]? = s.heap[a]?) : aGl base pre U := by
  obtain ⟨h1, h2, h3, h5, h6, h7, h4⟩ := h
  have hv := hW.alike
  exact ⟨fun a ha hb => ⟨((h1 a ha hb).1.moved hv).kept hk, fun q hq => (((h1 a ha hb).2 q hq).moved hv).kept hk⟩, fun e he => (h2 e he).warm hW, (h3.moved hv).kept hk, fun e he => (h5 e he).warmF hW, fun e he => (h6 e he).warmM hW, fun e he => (h7 e he).moved hv, (h4.moved hv).kept hk⟩
theorem aCA_moved {u U : State} (hvm : u.vm.Alike U.vm) : aCA U = aCA u := by
  funext kd; simp only [aCA, hvm.findClass]
theorem aKd.moved {u U : State} {H : aH} {q : Nat × Nat} (hvm : u.vm.Alike U.vm) (h : aKd u H q) : aKd U H q := by
  rcases h with h | ⟨h1, h2, h3, h4⟩
  · exact Or.inl h
  · refine Or.inr ⟨h1, h2, ?_, ?_⟩
    · rw [aCA_moved hvm]; exact arrOfT_moved hvm h3
    · rw [aCA_moved hvm]; exact h4.moved hvm
/-- what the heap is, of a state -/
def aWo (C : Nat → ClassId) (S : Nat → Nat → Nat) (base : Nat) (pre : Nat → Nat) (H : aH) (U : State) : Prop :=
  U.heap.size = base + H.1.length ∧ va_P (C, S) vwCl (aWs (aAd base pre) (aCA U) H) U.heap ∧ (∀ (i : Nat) (q : Nat × Nat), H.1[i]? = some q → aKd U H q) ∧ H.2.2.length = H.1.length
def aWd (C : Nat → ClassId) (S : Nat → Nat → Nat) (base : Nat) (pre : Nat → Nat) (H : aH) (U : State) : Prop :=
  aWo C S base pre H U ∧ va_K (C, S) vwCl [] U ∧ aGl base pre U
