/-! arrays, new cells, the library's own, the size of the heap -/
section RL3
variable {X : aX} {cc : ByteArray} {o d : Nat} {ini : Bool} {H' : aH} {pc : Nat} {ls : aLs} {st : List Value} {H : aH}
theorem aEnc_ints {ad : Nat → Nat} {cA : Nat → ClassId} {I : Nat → Nat → Int32} {P : List (List (Option Nat))} {a kd n : Nat} (h : kd = 20 ∨ kd = 21) : aEnc ad cA I P a (kd, n) = .inl (cA kd, n, .inl (I a)) := by
  unfold aEnc; rw [if_neg (show ¬ kd < 20 by omega), if_pos (show kd < 22 by omega)]
theorem aEnc_refs {ad : Nat → Nat} {cA : Nat → ClassId} {I : Nat → Nat → Int32} {P : List (List (Option Nat))} {a kd n : Nat} (h : 22 ≤ kd) : aEnc ad cA I P a (kd, n) = .inl (cA kd, n, .inr (.inr (.inr (.inr (fun j => (aP P a j).map ad))))) := by
  unfold aEnc; rw [if_neg (show ¬ kd < 20 by omega), if_neg (show ¬ kd < 22 by omega)]
theorem aKd.arr {s : State} {q : Nat × Nat} (h : aKd s H q) (hq : 20 ≤ q.1) : va_K (xC X, xI X) vwCl [] (xs X) → s = xs X → va_K (xC X, xI X) vwCl [(aCA s q.1, aAT q.1)] (xs X) := by
  rintro hK rfl
  refine ⟨hK.1, fun k x hx => ?_⟩
  have hz : k < 1 := (List.getElem?_eq_some_iff.mp hx).1
  obtain rfl : k = 0 := by omega
  cases hx
  rcases h with h | h
  · omega
  · exact h.2.2
theorem g_iald (C : aCx X cc o d ini H') {a n : Nat} {i : Int32} (hd : decode cc pc = .ok (.iaload, 1)) (ha : H.1[a]? = some (20, n)) (hi : ¬ (i < 0 ∨ n ≤ i.toNatClampNeg)) (G : aGd X H' (pc + 1) ls (.int (H.2.1 a i.toNatClampNeg) :: st) H) : aGd X H' pc ls (.int i :: .ref a :: st) H :=
  ⟨G.1, fun Hp locs cells slots lsA Rl => va_iald C.1 C.2.1 ((Rl.2.1 _ _ ha).arr (Nat.le_refl 20) C.2.2.2.2.2.1 rfl) Rl.1 a 0 ((aWs_get ha).trans (by rw [aEnc_ints (Or.inl rfl)])) rfl hi hd (G.2 _ _ _ _ _ Rl)⟩
theorem g_bald (C : aCx X cc o d ini H') {a n : Nat} {i : Int32} (hd : decode cc pc = .ok (.baload, 1)) (ha : H.1[a]? = some (21, n)) (hi : ¬ (i < 0 ∨ n ≤ i.toNatClampNeg)) (G : aGd X H' (pc + 1) ls (.int (H.2.1 a i.toNatClampNeg) :: st) H) : aGd X H' pc ls (.int i :: .ref a :: st) H :=
  ⟨G.1, fun Hp locs cells slots lsA Rl => va_bald C.1 C.2.1 ((Rl.2.1 _ _ ha).arr (Nat.le_of_ble_eq_true rfl) C.2.2.2.2.2.1 rfl) Rl.1 a 0 ((aWs_get ha).trans (by rw [aEnc_ints (Or.inr rfl)])) rfl hi hd (G.2 _ _ _ _ _ Rl)⟩
theorem g_aald (C : aCx X cc o d ini H') {a n kd : Nat} {i : Int32} {v : Value} (hd : decode cc pc = .ok (.aaload, 1)) (ha : H.1[a]? = some (kd, n)) (hk : 22 ≤ kd ∧ kd ≤ 24) (hi : ¬ (i < 0 ∨ n ≤ i.toNatClampNeg)) (hv : va_rf ((aP H.2.2 a i.toNatClampNeg).map (xd X)) = aVal (xd X) v) (G : aGd X H' (pc + 1) ls (v :: st) H) : aGd X H' pc ls (.int i :: .ref a :: st) H :=
  ⟨G.1, fun Hp locs cells slots lsA Rl => by
    have hK := (Rl.2.1 _ _ ha).arr (show 20 ≤ kd by omega) C.2.2.2.2.2.1 rfl
    have hT : aAT kd = .object (aO (aKc kd)) := by unfold aAT; rw [if_neg (by omega), if_neg (by omega)]
    have K := G.2 _ _ _ _ _ Rl
    simp only [List.map_cons, ← hv] at K
    exact va_aldq C.1 C.2.1 hK Rl.1 a 0 ((aWs_get ha).trans (by rw [aEnc_refs hk.1])) (by rw [← hT]; rfl) hi hd K⟩
theorem aSt_none {a : Nat} {q : Nat × (Nat → Int32)} (h : aSt none a = some q) : 1000 ≤ a ∧ a < 1003 := by
  unfold aSt at h
  split at h
  · omega
  · split at h
    · omega
    · split at h
      · omega
      · split at h <;> cases h
theorem aSt_scr {scr : aSc} {a : Nat} {q : Nat × (Nat → Int32)} (h : aSt scr a = some q) : aSt none a = some q ∨ a = 2999 ∧ scr = some q := by
  unfold aSt at h ⊢
  by_cases h1 : a = 1000
  · rw [if_pos h1] at h; exact Or.inl (by rw [if_pos h1]; exact h)
  · rw [if_neg h1] at h ⊢
    by_cases h2 : a = 1001
    · rw [if_pos h2] at h; exact Or.inl (by rw [if_pos h2]; exact h)
    · rw [if_neg h2] at h ⊢
      by_cases h3 : a = 1002
      · rw [if_pos h3] at h; exact Or.inl (by rw [if_pos h3]; exact h)
      · rw [if_neg h3] at h ⊢
        by_cases h4 : a = 2999
        · rw [if_pos h4] at h; exact Or.inr ⟨h4, h⟩
        · rw [if_neg h4] at h; cases h
theorem g_stald (C : aCx X cc o d ini H') {a : Nat} {q : Nat × (Nat → Int32)} {i : Int32} (hd : decode cc pc = .ok (.iaload, 1)) (ha : aSt (xS X) a = some q) (hi : ¬ (i < 0 ∨ q.1 ≤ i.toNatClampNeg)) (G : aGd X H' (pc + 1) ls (.int (q.2 i.toNatClampNeg) :: st) H) : aGd X H' pc ls (.int i :: .ref a :: st) H :=
  ⟨G.1, fun Hp locs cells slots lsA Rl => by
    have K := G.2 _ _ _ _ _ Rl
    rcases aSt_scr ha with h | ⟨rfl, h⟩
    · have hb := aSt_none h
      have hT := (C.2.2.2.2.2.2.1.1 a hb.1 hb.2).2 q h
      have e : xd X a = xE X a := if_neg (by omega)
      show aW X Hp locs cells slots (F0 (xm X) pc lsA (.int i :: .ref (xd X a) :: st.map (aVal (xd X))))
      rw [e]
      exact va_ti C.1 C.2.1 hT Rl.2.2.1 hi rfl hd K
    · obtain ⟨h1, h2, h3⟩ := C.2.2.2.2.2.2.2.2.2.2.1 q h
      have e : xd X 2999 = xE X 2999 := if_neg (by omega)
      show aW X Hp locs cells slots (F0 (xm X) pc lsA (.int i :: .ref (xd X 2999) :: st.map (aVal (xd X))))
      rw [e]
      exact va_sld C.1 C.2.1 h1 h2 h3 Rl.2.2.1 hi hd K⟩
theorem g_alen (C : aCx X cc o d ini H') {a : Nat} {q : Nat × Nat} (hd : decode cc pc = .ok (.arraylength, 1)) (ha : H.1[a]? = some q) (hk : 20 ≤ q.1 ∧ q.1 ≤ 24) (G : aGd X H' (pc + 1) ls (.int (Int32.ofNat q.2) :: st) H) : aGd X H' pc ls (.ref a :: st) H :=
  ⟨G.1, fun Hp locs cells slots lsA Rl => by
    have hK := (Rl.2.1 _ _ ha).arr hk.1 C.2.2.2.2.2.1 rfl
    obtain ⟨kd, n⟩ := q
    have he : ∃ x : vp_A, x.1 = n ∧ aEnc (xd X) (aCA (xs X)) H.2.1 H.2.2 a (kd, n) = .inl (aCA (xs X) kd, x) := by
      by_cases h : kd < 22
      · exact ⟨(n, .inl (H.2.1 a)), rfl, aEnc_ints (by dsimp only at hk; omega)⟩
      · exact ⟨(n, _), rfl, aEnc_refs (by omega)⟩
    obtain ⟨x, hx, he⟩ := he
    exact va_alen C.1 C.2.1 hK Rl.1 a 0 ((aWs_get ha).trans (by rw [he])) rfl (by rw [hx]) hd (G.2 _ _ _ _ _ Rl)⟩
theorem g_slen (C : aCx X cc o d ini H') {a : Nat} {q : Nat × (Nat → Int32)} (hd : decode cc pc = .ok (.arraylength, 1)) (ha : aSt (xS X) a = some q) (G : aGd X H' (pc + 1) ls (.int (Int32.ofNat q.1) :: st) H) : aGd X H' pc ls (.ref a :: st) H :=
  ⟨G.1, fun Hp locs cells slots lsA Rl => by
    have K := G.2 _ _ _ _ _ Rl
    rcases aSt_scr ha with h | ⟨rfl, h⟩
    · have hb := aSt_none h
      have hT := (C.2.2.2.2.2.2.1.1 a hb.1 hb.2).2 q h
      have e : xd X a = xE X a := if_neg (by omega)
      show aW X Hp locs cells slots (F0 (xm X) pc lsA (.ref (xd X a) :: st.map (aVal (xd X))))
      rw [e]
      exact va_tlen C.1 C.2.1 hT Rl.2.2.1 rfl hd K
    · obtain ⟨h1, h2, h3⟩ := C.2.2.2.2.2.2.2.2.2.2.1 q h
      have e : xd X 2999 = xE X 2999 := if_neg (by omega)
      show aW X Hp locs cells slots (F0 (xm X) pc lsA (.ref (xd X 2999) :: st.map (aVal (xd X))))
      rw [e]
      exact va_slen C.1 C.2.1 h1 h2 h3 Rl.2.2.1 hd K⟩
theorem aUpd_row {I : Nat → Nat → Int32} {a k : Nat} {x : Int32} : aUpd I a k x a = upd (I a) k x := by funext j; simp [aUpd]
theorem g_iast (C : aCx X cc o d ini H') {a n : Nat} {i x : Int32} (hd : decode cc pc = .ok (.iastore, 1)) (ha : H.1[a]? = some (20, n)) (hi : ¬ (i < 0 ∨ n ≤ i.toNatClampNeg)) (G : aGd X H' (pc + 1) ls st (H.1, aUpd H.2.1 a i.toNatClampNeg x, H.2.2)) : aGd X H' pc ls (.int x :: .int i :: .ref a :: st) H :=
  ⟨G.1, fun Hp locs cells slots lsA Rl => va_iast C.1 C.2.1 ((Rl.2.1 _ _ ha).arr (Nat.le_refl 20) C.2.2.2.2.2.1 rfl) Rl.1 (aWs_D (Nat.le_trans G.1.length_le C.2.2.2.2.2.2.2.2.2.2.2.2)) Rl.2.2.1 a 0 ((aWs_get ha).trans (by rw [aEnc_ints (Or.inl rfl)])) rfl hi hd
    fun Hp1 l1 h1 _ h2 => G.2 _ _ _ _ _ (Rl.set (I := aUpd H.2.1 a i.toNatClampNeg x) (P := H.2.2) ha (by rw [aEnc_ints (Or.inl rfl), aUpd_row]) (fun i q hi => aEnc_int hi) rfl h1 h2)⟩
theorem g_bast (C : aCx X cc o d ini H') {a n : Nat} {i x : Int32} (hd : decode cc pc = .ok (.bastore, 1)) (ha : H.1[a]? = some (21, n)) (hi : ¬ (i < 0 ∨ n ≤ i.toNatClampNeg)) (G : aGd X H' (pc + 1) ls st (H.1, aUpd H.2.1 a i.toNatClampNeg x.toInt8.toInt32, H.2.2)) : aGd X H' pc ls (.int x :: .int i :: .ref a :: st) H :=
  ⟨G.1, fun Hp locs cells slots lsA Rl => va_bast C.1 C.2.1 ((Rl.2.1 _ _ ha).arr (Nat.le_of_ble_eq_true rfl) C.2.2.2.2.2.1 rfl) Rl.1 (aWs_D (Nat.le_trans G.1.length_le C.2.2.2.2.2.2.2.2.2.2.2.2)) Rl.2.2.1 a 0 ((aWs_get ha).trans (by rw [aEnc_ints (Or.inr rfl)])) rfl hi hd
    fun Hp1 l1 h1 _ h2 => G.2 _ _ _ _ _ (Rl.set (I := aUpd H.2.1 a i.toNatClampNeg x.toInt8.toInt32) (P := H.2.2) ha (by rw [aEnc_ints (Or.inr rfl), aUpd_row, vp_nar_byte]) (fun i q hi => aEnc_int hi) rfl h1 h2)⟩
theorem aAT_obj {kd : Nat} (h : 22 ≤ kd) : aAT kd = .object (aO (aKc kd)) := by unfold aAT; rw [if_neg (by omega), if_neg (by omega)]
theorem aKc_lt (kd : Nat) : aKc kd < 9 := by unfold aKc; split <;> (try split) <;> omega
theorem g_aast (C : aCx X cc o d ini H') {a n kd x : Nat} {i : Int32} (hd : decode cc pc = .ok (.aastore, 1)) (ha : H.1[a]? = some (kd, n)) (hk : 22 ≤ kd ∧ kd ≤ 24) (hi : ¬ (i < 0 ∨ n ≤ i.toNatClampNeg)) (hx : H.1[x]? = some (aKc kd, aLen (aKc kd))) (hr : i.toNatClampNeg < (H.2.2.getD a []).length)
    (G : aGd X H' (pc + 1) ls st (H.1, H.2.1, aSetP H.2.2 a i.toNatClampNeg (some x))) : aGd X H' pc ls (.ref x :: .int i :: .ref a :: st) H :=
  ⟨G.1, fun Hp locs cells slots lsA Rl => by
    have hK := (Rl.2.1 _ _ ha).arr (show 20 ≤ kd by omega) C.2.2.2.2.2.1 rfl
    refine va_astq C.1 C.2.1 hK Rl.1 (aWs_D (Nat.le_trans G.1.length_le C.2.2.2.2.2.2.2.2.2.2.2.2)) Rl.2.2.1 a 0 x (aKc kd) ((aWs_get ha).trans (by rw [aEnc_refs hk.1])) (r := (aO (aKc kd), aT (aKc kd), aLen (aKc kd))) (by rw [← aAT_obj hk.1]; rfl) ((aWs_get hx).trans (by rw [aEnc_obj (aKc_lt kd)])) (aCl_at (aKc_lt kd)) hi hd
      fun Hp1 l1 h1 _ h2 => G.2 _ _ _ _ _ (Rl.set (I := H.2.1) (P := aSetP H.2.2 a i.toNatClampNeg (some x)) ha ?_ (fun i q hi => aEnc_ref hr hi) aSetP_len h1 h2)
    rw [aEnc_refs hk.1]
    congr 7
    funext k
    rw [aSetP_get hr]
    unfold va_up
    by_cases hk' : k = i.toNatClampNeg
    · rw [if_pos hk', if_pos ⟨rfl, hk'⟩]; rfl
    · rw [if_neg hk', if_neg (fun e => hk' e.2)]⟩
/-- the heap's size is known at any time -/
theorem aW.size {Hp : Heap} {locs : List Loc} {cells slots : Nat} {g : JFrame} (h : Hp.size ≤ (xs X).heap.size + cells → aW X Hp locs cells slots g) : aW X Hp locs cells slots g := fun T hT St => h (hT ▸ St.heapSize) T hT St
theorem aRel.size {Hp : Heap} {locs : List Loc} {cells slots : Nat} {lsA : Array Slot} (Rl : aRel X H ls Hp locs cells slots lsA) (hb : xB X ≤ (xs X).heap.size) (hl : H.1.length ≤ 1000) (h : Hp.size ≤ (xs X).heap.size + cells) : Hp.size = xB X + H.1.length := by
  have h1 := Rl.2.2.1.1
  have h2 := Rl.2.2.2.2.2.1
  cases hc : H.1.length with
  | zero => omega
  | succ n =>
    have hq : H.1[n]? = some H.1[n] := List.getElem?_eq_getElem (by omega)
    have h3 := (Rl.1 n _ (aWs_get hq)).lt
    simp only [xd, aAd, if_pos (show n < 1000 by omega)] at h3
    omega
/-- a new cell lies right behind the others -/
theorem aNew_at {Hp1 : Heap} {w : va_W} {q : Nat} {e : va_E} (hD : va_D (aA (xB X)) (w ++ [(q, e)])) (hP : va_P (xC X, xI X) vwCl (w ++ [(q, e)]) Hp1) (hw : w = aWs (xd X) (aCA (xs X)) H) (hl : H.1.length ≤ 999) (hs : Hp1.size ≤ xB X + H.1.length + 1) : q = xB X + H.1.length := by
  have hlen : w.length = H.1.length := by rw [hw, aWs, List.length_mapIdx]
  have h0 : (w ++ [(q, e)])[w.length]? = some (q, e) := by rw [List.getElem?_append_right (Nat.le_refl _)]; simp
  have h1 := hD.2 _ _ h0
  have h2 := (hP _ _ h0).lt
  dsimp only [aA] at h1 h2
  by_cases hq : q = xB X + H.1.length
  · exact hq
  · exfalso
    have hj : q - xB X < H.1.length := by omega
    have hx : w[q - xB X]? = some (xd X (q - xB X), aEnc (xd X) (aCA (xs X)) H.2.1 H.2.2 (q - xB X) H.1[q - xB X]) := by rw [hw]; exact aWs_get (List.getElem?_eq_getElem hj)
    have hx' : (w ++ [(q, e)])[q - xB X]? = some (xd X (q - xB X), aEnc (xd X) (aCA (xs X)) H.2.1 H.2.2 (q - xB X) H.1[q - xB X]) := by rw [List.getElem?_append_left (by omega)]; exact hx
    have := hD.1 _ _ _ _ hx' h0 (by simp only [xd, aAd, if_pos (show q - xB X < 1000 by omega)]; omega)
    omega
theorem aRel.new {kd n : Nat} {Hp Hp1 : Heap} {locs : List Loc} {cells slots : Nat} {lsA : Array Slot} {q : Nat} {e : va_E} (Rl : aRel X H ls Hp locs cells slots lsA) (he : e = aEnc (xd X) (aCA (xs X)) (aNew kd n H).2.1 (aNew kd n H).2.2 H.1.length (kd, n)) (hq : q = xB X + H.1.length) (hl : H.1.length ≤ 999) (hkd : aKd (xs X) H (kd, n))
    (h1 : va_P (xC X, xI X) vwCl (aWs (xd X) (aCA (xs X)) H ++ [(q, e)]) Hp1) (h2 : va_S (aA (xB X)) (xs X).heap Hp1 locs) : aRel X (aNew kd n H) ls Hp1 locs (cells + 1) (slots + n) lsA := by
  subst he
  have hx : q = xd X H.1.length := by rw [hq]; simp only [xd, aAd, if_pos (show H.1.length < 1000 by omega)]
  refine ⟨?_, fun i x hi => ?_, h2, Rl.2.2.2.1, Rl.2.2.2.2.1, ?_, ?_, ?_⟩
  · rw [aWs_new Rl.2.2.2.2.2.2.2, ← hx]; exact h1
  · rcases Nat.lt_trichotomy i H.1.length with hlt | hlt | hlt
    · exact Rl.2.1 i x (by simpa [aNew, List.getElem?_append_left hlt] using hi)
    · subst hlt
      have : x = (kd, n) := by simpa [aNew] using hi.symm
      rw [this]; exact hkd
    · exfalso
      have := (List.getElem?_eq_some_iff.mp hi).1
      rw [aNew_len] at this
      omega
  · have := Rl.2.2.2.2.2.1
    rw [aNew_len]; omega
  · have := Rl.2.2.2.2.2.2.1
    rw [aSz_new]; omega
  · have := Rl.2.2.2.2.2.2.2
    simp [aNew, this]
theorem aNew_pre {kd n : Nat} {H : aH} (h : (aNew kd n H).1 <+: H'.1) : H.1 <+: H'.1 := List.IsPrefix.trans ⟨[(kd, n)], rfl⟩ h
theorem aDef_ok : ∀ ci, ci < 9 → ∀ f, f < aLen ci → defaultValue (aTy ci f) = if aFk ci f = 2 then .null else .int 0 := by decide +kernel
theorem aPre_sz {H : aH} (h : H.1 <+: H'.1) : aSz H ≤ aSz H' := by
  obtain ⟨t, ht⟩ := h
  unfold aSz; rw [← ht]; simp
theorem g_new (C : aCx X cc o d ini H') {j ci : Nat} (hd : decode cc pc = .ok (.new j, 3)) (hl : (o, j, ci) ∈ aNw) (hci : ci < 9) (hH : H.1.length ≤ 900) (G : aGd X H' (pc + 3) ls (.ref H.1.length :: st) (aNew ci (aLen ci) H)) : aGd X H' pc ls st H := by
  refine ⟨aNew_pre G.1, fun Hp locs cells slots lsA Rl => aW.size fun hsz => ?_⟩
  have hsz' := Rl.size C.2.2.2.2.2.2.2.1 (by omega) hsz
  have hin := C.2.2.2.2.1
  have hm : ci ∈ [0, 1, 2, 3, 4, 5, 6, 7, 8] := by
    rcases (show ci = 0 ∨ ci = 1 ∨ ci = 2 ∨ ci = 3 ∨ ci = 4 ∨ ci = 5 ∨ ci = 6 ∨ ci = 7 ∨ ci = 8 by omega) with rfl | rfl | rfl | rfl | rfl | rfl | rfl | rfl | rfl <;> decide
  have hm2 : ci ∈ [0, 1, 2, 3, 4, 5, 6, 7, 8, 9, 10, 11, 12, 13] := by
    rcases (show ci = 0 ∨ ci = 1 ∨ ci = 2 ∨ ci = 3 ∨ ci = 4 ∨ ci = 5 ∨ ci = 6 ∨ ci = 7 ∨ ci = 8 by omega) with rfl | rfl | rfl | rfl | rfl | rfl | rfl | rfl | rfl <;> decide
  have hG1 := G.1.length_le
  have hG2 := aPre_sz G.1
  rw [aNew_len] at hG1
  rw [aSz_new] at hG2
  have hc := C.2.2.2.2.2.2.2.2.2.1
  have hr1 := Rl.2.2.2.2.2.1
  have hr2 := Rl.2.2.2.2.2.2.1
  refine va_new (fs := (List.range (aLen ci)).map (fun k => if aFk ci k = 2 then .null else .int 0)) C.1 C.2.1 hin (aLay_in hci) (aTy ci) (aTy_ok hci) C.2.2.2.1 (hin _ (aTB_in (aNw_ok _ hl) rfl)) (hin _ (aTB_in (aInst_ok _ hm) rfl)) (hin _ (aTB_in (aIni_ok _ hm2) rfl)) C.2.2.2.2.2.1 Rl.1 (aWs_D (by omega)) Rl.2.2.1 (fun q hq => Nat.le_trans C.2.2.2.2.2.2.2.1 hq) (aCl_at hci) (fun f hf => ?_) (by omega) (by omega) hd fun q Hp1 h1 h2 h3 => aW.size fun hs => ?_
  · rw [aDef_ok ci hci f hf, vp_V, List.getD_eq_getElem?_getD, aRng_get _ hf]; rfl
  · have hq := aNew_at h2 h1 rfl (by omega) (by omega)
    have K := G.2 Hp1 locs (cells + 1) (slots + aLen ci) lsA (Rl.new ?_ hq (by omega) (Or.inl ⟨hci, rfl⟩) h1 h3)
    · have e : xd X H.1.length = q := by rw [hq]; simp only [xd, aAd, if_pos (show H.1.length < 1000 by omega)]
      simp only [List.map_cons, aVal, e] at K
      exact K
    · rw [aEnc_obj hci, aNew_zero]
      simp only [aNew_null Rl.2.2.2.2.2.2.2, Option.map_none]
      rfl
theorem aAty_ty {t : ArrayType} (h : aAty t ≠ 99) : newarray.typeOf t = aAT (aAty t) ∧ (aAty t = 20 ∨ aAty t = 21) := by
  cases t <;> first | exact absurd rfl h | exact ⟨rfl, Or.inl rfl⟩ | exact ⟨rfl, Or.inr rfl⟩
theorem aArrCls (t : ArrayType) (h : aAty t ≠ 99) : Cond.arrayClass (newarray.typeOf t) ∈ aTB := by
  cases t <;> first | exact absurd rfl h | exact aTB_in (aBase_ok _ (by first | exact List.mem_of_getElem? (i := 10) rfl | exact List.mem_of_getElem? (i := 11) rfl)) rfl
theorem g_newa (C : aCx X cc o d ini H') {t : ArrayType} {n : Int32} (hd : decode cc pc = .ok (.newarray t, 2)) (ht : aAty t ≠ 99) (hn : ¬ (n < 0 ∨ 1000 < n.toNatClampNeg ∨ 900 < H.1.length)) (G : aGd X H' (pc + 2) ls (.ref H.1.length :: st) (aNew (aAty t) n.toNatClampNeg H)) : aGd X H' pc ls (.int n :: st) H := by
  refine ⟨aNew_pre G.1, fun Hp locs cells slots lsA Rl => aW.size fun hsz => ?_⟩
  have hsz' := Rl.size C.2.2.2.2.2.2.2.1 (by omega) hsz
  have hin := C.2.2.2.2.1
  have hG1 := G.1.length_le
  have hG2 := aPre_sz G.1
  rw [aNew_len] at hG1
  rw [aSz_new] at hG2
  have hc := C.2.2.2.2.2.2.2.2.2.1
  have hr1 := Rl.2.2.2.2.2.1
  have hr2 := Rl.2.2.2.2.2.2.1
  obtain ⟨hty, hkd⟩ := aAty_ty ht
  have hb : componentBytes (aAT (aAty t)) ≤ 8 := by rcases hkd with e | e <;> rw [e] <;> decide
  refine va_newa (a0 := (n.toNatClampNeg, .inl (fun _ => 0))) C.1 C.2.1 (hin _ (aArrCls t ht)) hty C.2.2.2.2.2.1 Rl.1 (aWs_D (by omega)) Rl.2.2.1 (fun q hq => Nat.le_trans C.2.2.2.2.2.2.2.1 hq) (fun cA => ?_) (fun z => hn (Or.inl z)) rfl (Nat.le_trans (Nat.mul_le_mul (show n.toNatClampNeg ≤ 1000 by omega) hb) (by decide)) (by omega) (by omega) hd fun q cA Hp1 hK1 h1 h2 h3 => aW.size fun hs => ?_
  · rw [vp_cell_i]; rcases hkd with e | e <;> rw [e] <;> rfl
  · have hq := aNew_at h2 h1 rfl (by omega) (by omega)
    obtain ⟨k1, k2⟩ := hK1.2 0 _ rfl
    have hcA : aCA (xs X) (aAty t) = cA := by
      rcases hkd with e | e <;> rw [e] at k2 ⊢
      · have : (xs X).vm.findClass ("[" ++ (aAT 20).toString) = some cA := k2
        rw [aCA, this]; rfl
      · have : (xs X).vm.findClass ("[" ++ (aAT 21).toString) = some cA := k2
        rw [aCA, this]; rfl
    have K := G.2 Hp1 locs (cells + 1) (slots + n.toNatClampNeg) lsA (Rl.new ?_ hq (by omega) (Or.inr ⟨by omega, by omega, by dsimp only; rw [hcA]; exact ⟨k1, k2⟩⟩) h1 h3)
    · have e : xd X H.1.length = q := by rw [hq]; simp only [xd, aAd, if_pos (show H.1.length < 1000 by omega)]
      simp only [List.map_cons, aVal, e] at K
      exact K
    · rw [aEnc_ints hkd, aNew_zero, hcA]
theorem g_newq (C : aCx X cc o d ini H') {j kd : Nat} {n : Int32} (hd : decode cc pc = .ok (.anewarray j, 3)) (hl : (o, j, aKc kd) ∈ aNw) (hk : 22 ≤ kd ∧ kd ≤ 24) (hn : ¬ (n < 0 ∨ 1000 < n.toNatClampNeg ∨ 900 < H.1.length)) (G : aGd X H' (pc + 3) ls (.ref H.1.length :: st) (aNew kd n.toNatClampNeg H)) : aGd X H' pc ls (.int n :: st) H := by
  refine ⟨aNew_pre G.1, fun Hp locs cells slots lsA Rl => aW.size fun hsz => ?_⟩
  have hsz' := Rl.size C.2.2.2.2.2.2.2.1 (by omega) hsz
  have hin := C.2.2.2.2.1
  have hG1 := G.1.length_le
  have hG2 := aPre_sz G.1
  rw [aNew_len] at hG1
  rw [aSz_new] at hG2
  have hc := C.2.2.2.2.2.2.2.2.2.1
  have hr1 := Rl.2.2.2.2.2.1
  have hr2 := Rl.2.2.2.2.2.2.1
  have hm : aKc kd ∈ [2, 5, 4] := by unfold aKc; split <;> (try split) <;> decide
  refine va_newq C.1 C.2.1 C.2.2.2.1 (hin _ (aTB_in (aNw_ok _ hl) rfl)) (C.2.2.2.2.2.2.1.2.2.2.2.2.1 _ hm) C.2.2.2.2.2.1 Rl.1 (aWs_D (by omega)) Rl.2.2.1 (fun q hq => Nat.le_trans C.2.2.2.2.2.2.2.1 hq) (fun z => hn (Or.inl z)) rfl (by omega) (by omega) (by omega) hd fun q cA Hp1 hK1 h1 h2 h3 => aW.size fun hs => ?_
  have hq := aNew_at h2 h1 rfl (by omega) (by omega)
  obtain ⟨k1, k2⟩ := hK1.2 0 _ rfl
  have hcA : aCA (xs X) kd = cA := by
    obtain ⟨_, _, _, _, _, h4⟩ := k2
    rw [aCA, aAT_obj hk.1, h4]; rfl
  have K := G.2 Hp1 locs (cells + 1) (slots + n.toNatClampNeg) lsA (Rl.new ?_ hq (by omega) (Or.inr ⟨by omega, hk.2, by dsimp only; rw [hcA, aAT_obj hk.1]; exact ⟨k1, k2⟩⟩) h1 h3)
  · have e : xd X H.1.length = q := by rw [hq]; simp only [xd, aAd, if_pos (show H.1.length < 1000 by omega)]
    simp only [List.map_cons, aVal, e] at K
    exact K
  · rw [aEnc_refs hk.1, hcA]
    simp only [aNew_null Rl.2.2.2.2.2.2.2, Option.map_none]
end RL3
