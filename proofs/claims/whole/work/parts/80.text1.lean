/-! TEXTS: the two readers, their states and smallest steps -/
def cS (u : Nat) (s : Int32 × Int32) : Int32 × Int32 := if s.1 = 0 then (110, s.2) else if s.1 = 1 then (118, idx u s.2) else if s.1 = 2 then (33, 0) else (s.2, 0)
def CS (u L : Nat) (X : Nat → Nat → Int32) (a : Nat) (st : List (Int32 × Int32)) (I : Nat → Nat → Int32) : Prop :=
  I 94 3 = nI a ∧ I 94 2 = nI L ∧ I 95 4 = nI st.length ∧ (∀ i, i < st.length → I 96 i = (cS u (st.getD i (0, 0))).1 ∧ I 97 i = (cS u (st.getD i (0, 0))).2) ∧ (∀ r, r ≠ 94 → r ≠ 95 → r ≠ 96 → r ≠ 97 → I r = X r)
def CF (L : Nat) (X : Nat → Nat → Int32) (a : Nat) (I : Nat → Nat → Int32) : Prop := I 94 3 = nI a ∧ I 94 2 = nI L ∧ (∀ r, r ≠ 94 → r ≠ 95 → r ≠ 96 → r ≠ 97 → I r = X r)
theorem CS.f {u L a : Nat} {X I : Nat → Nat → Int32} {st : List (Int32 × Int32)} (h : CS u L X a st I) : CF L X a I := ⟨h.1, h.2.1, h.2.2.2.2⟩
def RS (u : Nat) (Y : Nat → Nat → Int32) (a o : Nat) (st : List (Int32 × Int32)) (J : Nat → Nat → Int32) : Prop :=
  J 113 5 = nI a ∧ J 113 6 = nI o ∧ J 113 7 = nI st.length ∧ J 113 8 = nI u ∧ (∀ i, i < st.length → J 118 (2 * i) = (st.getD i (0, 0)).1 ∧ J 118 (2 * i + 1) = (st.getD i (0, 0)).2) ∧ (∀ r, r ≠ 113 → r ≠ 118 → J r = Y r) ∧ ∀ k, k < 5 ∨ 8 < k → J 113 k = Y 113 k
def RFl (Y : Nat → Nat → Int32) (a : Nat) (J : Nat → Nat → Int32) : Prop := J 113 5 = nI a ∧ (∀ r, r ≠ 113 → r ≠ 118 → J r = Y r) ∧ ∀ k, k < 5 ∨ 8 < k → J 113 k = Y 113 k
theorem RS.f {u a o : Nat} {Y J : Nat → Nat → Int32} {st : List (Int32 × Int32)} (h : RS u Y a o st J) : RFl Y a J := ⟨h.1, h.2.2.2.2.2.1, h.2.2.2.2.2.2⟩
theorem getD_lt {st : List (Int32 × Int32)} {s d : Int32 × Int32} {i : Nat} (h : i < st.length) : (st ++ [s]).getD i d = st.getD i d := by
  rw [List.getD_eq_getElem?_getD, List.getD_eq_getElem?_getD, List.getElem?_append_left h]
theorem getD_at {st : List (Int32 × Int32)} {s d : Int32 × Int32} : (st ++ [s]).getD st.length d = s := by
  rw [List.getD_eq_getElem?_getD, List.getElem?_append_right (Nat.le_refl _)]; simp
theorem CS.at {u L a b : Nat} {X I : Nat → Nat → Int32} {st : List (Int32 × Int32)} (h : CS u L X a st I) : CS u L X b st (aUpd I 94 3 (nI b)) := by
  obtain ⟨h1, h2, h3, h4, h5⟩ := h
  exact ⟨by rw [aUpd_row, upd_eq], by rw [aUpd_row, upd_ne (by omega)]; exact h2, by rw [aUpd_ne (by omega)]; exact h3, fun i hi => by rw [aUpd_ne (by omega), aUpd_ne (by omega)]; exact h4 i hi, fun r a b c e => by rw [aUpd_ne a]; exact h5 r a b c e⟩
theorem CS.app {u L a : Nat} {X I : Nat → Nat → Int32} {st : List (Int32 × Int32)} {s : Int32 × Int32} (h : CS u L X a st I) : CS u L X a (st ++ [s]) (aUpd (aUpd (aUpd I 96 st.length (cS u s).1) 97 st.length (cS u s).2) 95 4 (nI (st.length + 1))) := by
  obtain ⟨h1, h2, h3, h4, h5⟩ := h
  refine ⟨by rw [aUpd_ne (by omega), aUpd_ne (by omega), aUpd_ne (by omega)]; exact h1, by rw [aUpd_ne (by omega), aUpd_ne (by omega), aUpd_ne (by omega)]; exact h2, by rw [aUpd_row, upd_eq, List.length_append]; rfl, fun i hi => ?_, fun r a b c e => by rw [aUpd_ne b, aUpd_ne e, aUpd_ne c]; exact h5 r a b c e⟩
  rw [List.length_append, List.length_singleton] at hi
  rw [aUpd_ne (by omega), aUpd_ne (by omega), aUpd_row, aUpd_ne (by omega), aUpd_row, aUpd_ne (by omega)]
  by_cases e : i = st.length
  · subst e; rw [upd_eq, upd_eq, getD_at]; exact ⟨rfl, rfl⟩
  · rw [upd_ne e, upd_ne e, getD_lt (by omega)]; exact h4 i (by omega)
theorem RS.at {u a b o : Nat} {Y J : Nat → Nat → Int32} {st : List (Int32 × Int32)} (h : RS u Y a o st J) : RS u Y b o st (aUpd J 113 5 (nI b)) := by
  obtain ⟨h1, h2, h3, h4, h5, h6, h7⟩ := h
  exact ⟨by rw [aUpd_row, upd_eq], by rw [aUpd_row, upd_ne (by omega)]; exact h2, by rw [aUpd_row, upd_ne (by omega)]; exact h3, by rw [aUpd_row, upd_ne (by omega)]; exact h4, fun i hi => by rw [aUpd_ne (by omega)]; exact h5 i hi, fun r p q => by rw [aUpd_ne p]; exact h6 r p q, fun k hk => by rw [aUpd_row, upd_ne (by omega)]; exact h7 k hk⟩
theorem RS.op {u a o q : Nat} {Y J : Nat → Nat → Int32} {st : List (Int32 × Int32)} (h : RS u Y a o st J) : RS u Y a q st (aUpd J 113 6 (nI q)) := by
  obtain ⟨h1, h2, h3, h4, h5, h6, h7⟩ := h
  exact ⟨by rw [aUpd_row, upd_ne (by omega)]; exact h1, by rw [aUpd_row, upd_eq], by rw [aUpd_row, upd_ne (by omega)]; exact h3, by rw [aUpd_row, upd_ne (by omega)]; exact h4, fun i hi => by rw [aUpd_ne (by omega)]; exact h5 i hi, fun r p q => by rw [aUpd_ne p]; exact h6 r p q, fun k hk => by rw [aUpd_row, upd_ne (by omega)]; exact h7 k hk⟩
theorem RS.app {u a o : Nat} {Y J : Nat → Nat → Int32} {st : List (Int32 × Int32)} {w v : Int32} (h : RS u Y a o st J) : RS u Y a o (st ++ [(w, v)]) (aUpd (aUpd (aUpd J 118 (2 * st.length) w) 118 (2 * st.length + 1) v) 113 7 (nI (st.length + 1))) := by
  obtain ⟨h1, h2, h3, h4, h5, h6, h7⟩ := h
  refine ⟨by rw [aUpd_row, upd_ne (by omega), aUpd_ne (by omega), aUpd_ne (by omega)]; exact h1, by rw [aUpd_row, upd_ne (by omega), aUpd_ne (by omega), aUpd_ne (by omega)]; exact h2, by rw [aUpd_row, upd_eq, List.length_append]; rfl, by rw [aUpd_row, upd_ne (by omega), aUpd_ne (by omega), aUpd_ne (by omega)]; exact h4, fun i hi => ?_, fun r p q => by rw [aUpd_ne p, aUpd_ne q, aUpd_ne q]; exact h6 r p q, fun k hk => by rw [aUpd_row, upd_ne (by omega), aUpd_ne (by omega), aUpd_ne (by omega)]; exact h7 k hk⟩
  rw [List.length_append, List.length_singleton] at hi
  rw [aUpd_ne (by omega), aUpd_row, aUpd_row]
  by_cases e : i = st.length
  · subst e; rw [upd_ne (by omega), upd_eq, upd_eq, getD_at]; exact ⟨rfl, rfl⟩
  · rw [upd_ne (by omega), upd_ne (by omega), upd_ne (by omega), upd_ne (by omega), getD_lt (by omega)]; exact h5 i (by omega)
def lk (rb : Nat → Int32) (L a : Nat) : Int32 := if a < L then rb a else -1
/-- the level of a sign; 9: it joins nothing -/
def plv (c : Int32) : Nat := if c = 124 then 0 else if c = 38 then 1 else if c = 60 ∨ c = 61 ∨ c = 62 then 2 else if c = 43 ∨ c = 45 then 3 else if c = 42 ∨ c = 47 ∨ c = 37 then 4 else 9
def plI (c : Int32) : Int32 := if plv c = 9 then -1 else nI (plv c)
theorem bRel_c {c r : Int32} (h : bRel c r) : (c = r ∧ ∃ n, n < 128 ∧ r = nI n) ∨ (c < 0 ∧ ∀ k, k < 128 → ¬ c = nI k ∧ ¬ r = nI k) ∧ ∃ n, 128 ≤ n ∧ n < 256 ∧ r = nI n := by
  rcases h with ⟨n, hn, rfl, rfl⟩ | ⟨hc, n, h1, h2, rfl⟩
  · exact Or.inl ⟨rfl, n, hn, rfl⟩
  · refine Or.inr ⟨⟨hc, fun k hk => ⟨fun z => ?_, fun z => ?_⟩⟩, n, h1, h2, rfl⟩
    · subst z; exact nI_pos (by omega) hc
    · have := (nI_eq (by omega) (by omega)).mp z; omega
theorem plv_other {c : Int32} (h : ∀ k, k < 128 → ¬ c = nI k) : plv c = 9 := by
  have a124 : ¬ c = 124 := h 124 (by decide)
  have a38 : ¬ c = 38 := h 38 (by decide)
  have a60 : ¬ c = 60 := h 60 (by decide)
  have a61 : ¬ c = 61 := h 61 (by decide)
  have a62 : ¬ c = 62 := h 62 (by decide)
  have a43 : ¬ c = 43 := h 43 (by decide)
  have a45 : ¬ c = 45 := h 45 (by decide)
  have a42 : ¬ c = 42 := h 42 (by decide)
  have a47 : ¬ c = 47 := h 47 (by decide)
  have a37 : ¬ c = 37 := h 37 (by decide)
  unfold plv
  simp [a124, a38, a60, a61, a62, a43, a45, a42, a47, a37]
theorem bRel_lv {c r : Int32} (h : bRel c r) : plv c = plv r := by
  rcases bRel_c h with ⟨rfl, _⟩ | ⟨⟨_, hk⟩, _⟩
  · rfl
  · rw [plv_other fun k hk2 => (hk k hk2).1, plv_other fun k hk2 => (hk k hk2).2]
theorem bRel_sg {c r : Int32} (h : bRel c r) (hl : ¬ plv r = 9) : c = r := by
  rcases bRel_c h with ⟨rfl, _⟩ | ⟨⟨_, hk⟩, _⟩
  · rfl
  · exact absurd (plv_other fun k hk2 => (hk k hk2).2) hl
theorem plv_sign {c : Int32} (h : ¬ plv c = 9) : isSign c ∧ (cS 0 (3, c)).1 = c := by
  refine ⟨?_, rfl⟩
  unfold plv at h; unfold isSign
  by_cases h1 : c = 124
  · simp [h1]
  by_cases h2 : c = 38
  · simp [h2]
  by_cases h3 : c = 60 ∨ c = 61 ∨ c = 62
  · rcases h3 with rfl | rfl | rfl <;> simp
  by_cases h4 : c = 43 ∨ c = 45
  · rcases h4 with rfl | rfl <;> simp
  by_cases h5 : c = 42 ∨ c = 47 ∨ c = 37
  · rcases h5 with rfl | rfl | rfl <;> simp
  · rw [if_neg h1, if_neg h2, if_neg h3, if_neg h4, if_neg h5] at h; exact absurd rfl h
theorem st_tx : SH[2001]? = none ∧ SH[2002]? = none ∧ SH[2501]? = none ∧ SH[2502]? = none := ⟨rfl, rfl, rfl, rfl⟩
theorem nI_byte {n : Nat} (h : n < 128) : (nI n).toInt8.toInt32 = nI n ∧ ((nI n).toUInt32 % 65536).toInt32 = nI n := by
  have h1 : ∀ n, n < 128 → (nI n).toInt8.toInt32 = nI n ∧ ((nI n).toUInt32 % 65536).toInt32 = nI n := by decide +kernel
  exact h1 n h
/-- where a letter stands in the names of a USE -/
def nix (u : Nat) (c : Int32) : Int32 := if u = 0 then (if c = 108 then 0 else if c = 111 then 1 else if c = 97 then 2 else -1) else (if c = 108 then 0 else if c = 115 then 1 else if c = 111 then 2 else -1)
section TEXT1
variable {d : Nat} {I : Nat → Nat → Int32} {x y : Option Nat}
theorem k_levelOf {c : Int32} {H : aH} : aCall aMt (d + 1) 44 [.int c] H = some (some (.int (plI c)), H) := by
  rw [e_44]
  by_cases h1 : c = 124
  · subst h1; simp [s_44, aILoad, aRLoad, aLLoad, aIStore, aRStore, aPush, aBin, aBinL, aShL, aUn, aIf, aIc, aGet, aPut, aIald, aBald, aAald, aIast, aBast, aAast, aAlen, aCopy, aCallV, aCallC, aCallI, aRet, aCat, aMax, aMin, aDiv, aRem, aI2l, aL2i, aNul, aSwS, aSw, aInc, aDup, aDup2, aPop1, aIret, aAret, aVret, aLen, aFk, aFT, Value.category]; decide
  by_cases h2 : c = 38
  · subst h2; simp [s_44, aILoad, aRLoad, aLLoad, aIStore, aRStore, aPush, aBin, aBinL, aShL, aUn, aIf, aIc, aGet, aPut, aIald, aBald, aAald, aIast, aBast, aAast, aAlen, aCopy, aCallV, aCallC, aCallI, aRet, aCat, aMax, aMin, aDiv, aRem, aI2l, aL2i, aNul, aSwS, aSw, aInc, aDup, aDup2, aPop1, aIret, aAret, aVret, aLen, aFk, aFT, Value.category]; decide
  by_cases h3 : c = 60
  · subst h3; simp [s_44, aILoad, aRLoad, aLLoad, aIStore, aRStore, aPush, aBin, aBinL, aShL, aUn, aIf, aIc, aGet, aPut, aIald, aBald, aAald, aIast, aBast, aAast, aAlen, aCopy, aCallV, aCallC, aCallI, aRet, aCat, aMax, aMin, aDiv, aRem, aI2l, aL2i, aNul, aSwS, aSw, aInc, aDup, aDup2, aPop1, aIret, aAret, aVret, aLen, aFk, aFT, Value.category]; decide
  by_cases h4 : c = 61
  · subst h4; simp [s_44, aILoad, aRLoad, aLLoad, aIStore, aRStore, aPush, aBin, aBinL, aShL, aUn, aIf, aIc, aGet, aPut, aIald, aBald, aAald, aIast, aBast, aAast, aAlen, aCopy, aCallV, aCallC, aCallI, aRet, aCat, aMax, aMin, aDiv, aRem, aI2l, aL2i, aNul, aSwS, aSw, aInc, aDup, aDup2, aPop1, aIret, aAret, aVret, aLen, aFk, aFT, Value.category]; decide
  by_cases h5 : c = 62
  · subst h5; simp [s_44, aILoad, aRLoad, aLLoad, aIStore, aRStore, aPush, aBin, aBinL, aShL, aUn, aIf, aIc, aGet, aPut, aIald, aBald, aAald, aIast, aBast, aAast, aAlen, aCopy, aCallV, aCallC, aCallI, aRet, aCat, aMax, aMin, aDiv, aRem, aI2l, aL2i, aNul, aSwS, aSw, aInc, aDup, aDup2, aPop1, aIret, aAret, aVret, aLen, aFk, aFT, Value.category]; decide
  by_cases h6 : c = 43
  · subst h6; simp [s_44, aILoad, aRLoad, aLLoad, aIStore, aRStore, aPush, aBin, aBinL, aShL, aUn, aIf, aIc, aGet, aPut, aIald, aBald, aAald, aIast, aBast, aAast, aAlen, aCopy, aCallV, aCallC, aCallI, aRet, aCat, aMax, aMin, aDiv, aRem, aI2l, aL2i, aNul, aSwS, aSw, aInc, aDup, aDup2, aPop1, aIret, aAret, aVret, aLen, aFk, aFT, Value.category]; decide
  by_cases h7 : c = 45
  · subst h7; simp [s_44, aILoad, aRLoad, aLLoad, aIStore, aRStore, aPush, aBin, aBinL, aShL, aUn, aIf, aIc, aGet, aPut, aIald, aBald, aAald, aIast, aBast, aAast, aAlen, aCopy, aCallV, aCallC, aCallI, aRet, aCat, aMax, aMin, aDiv, aRem, aI2l, aL2i, aNul, aSwS, aSw, aInc, aDup, aDup2, aPop1, aIret, aAret, aVret, aLen, aFk, aFT, Value.category]; decide
  by_cases h8 : c = 42
  · subst h8; simp [s_44, aILoad, aRLoad, aLLoad, aIStore, aRStore, aPush, aBin, aBinL, aShL, aUn, aIf, aIc, aGet, aPut, aIald, aBald, aAald, aIast, aBast, aAast, aAlen, aCopy, aCallV, aCallC, aCallI, aRet, aCat, aMax, aMin, aDiv, aRem, aI2l, aL2i, aNul, aSwS, aSw, aInc, aDup, aDup2, aPop1, aIret, aAret, aVret, aLen, aFk, aFT, Value.category]; decide
  by_cases h9 : c = 47
  · subst h9; simp [s_44, aILoad, aRLoad, aLLoad, aIStore, aRStore, aPush, aBin, aBinL, aShL, aUn, aIf, aIc, aGet, aPut, aIald, aBald, aAald, aIast, aBast, aAast, aAlen, aCopy, aCallV, aCallC, aCallI, aRet, aCat, aMax, aMin, aDiv, aRem, aI2l, aL2i, aNul, aSwS, aSw, aInc, aDup, aDup2, aPop1, aIret, aAret, aVret, aLen, aFk, aFT, Value.category]; decide
  by_cases h10 : c = 37
  · subst h10; simp [s_44, aILoad, aRLoad, aLLoad, aIStore, aRStore, aPush, aBin, aBinL, aShL, aUn, aIf, aIc, aGet, aPut, aIald, aBald, aAald, aIast, aBast, aAast, aAlen, aCopy, aCallV, aCallC, aCallI, aRet, aCat, aMax, aMin, aDiv, aRem, aI2l, aL2i, aNul, aSwS, aSw, aInc, aDup, aDup2, aPop1, aIret, aAret, aVret, aLen, aFk, aFT, Value.category]; decide
  have e : plI c = -1 := by
    unfold plI plv
    simp [h1, h2, h3, h4, h5, h6, h7, h8, h9, h10]
  rw [e]
  simp [s_44, aILoad, aRLoad, aLLoad, aIStore, aRStore, aPush, aBin, aBinL, aShL, aUn, aIf, aIc, aGet, aPut, aIald, aBald, aAald, aIast, aBast, aAast, aAlen, aCopy, aCallV, aCallC, aCallI, aRet, aCat, aMax, aMin, aDiv, aRem, aI2l, aL2i, aNul, aSwS, aSw, aInc, aDup, aDup2, aPop1, aIret, aAret, aVret, aLen, aFk, aFT, Value.category, h1, h2, h3, h4, h5, h6, h7, h8, h9, h10]
theorem k_indexOf {n u nm : Nat} (hn : n < 128) (hu : u = 0 ∧ nm = 2001 ∨ u = 1 ∧ nm = 2002) : aCall aMt (d + 5) 221 [.ref nm, .int (nI n)] (HH I x y) = some (some (.int (nix u (nI n))), HH I x y) := by
  have hb := (nI_byte hn).1
  have c0 : 0 ≤ nI n := nI_pos' (by omega)
  have c1 : nI n ≤ 255 := nI_le (b := 255) (by omega) (by omega)
  have c2 : ¬ nI n < 0 := nI_pos (by omega)
  have c3 : ¬ (255 : Int32) < nI n := Int32.not_lt.mpr c1
  rcases hu with ⟨rfl, rfl⟩ | ⟨rfl, rfl⟩
  · have h5 : ∀ d, aCall aMt (d + 1) 223 [.ref 2001] (HH I x y) = some (some (.int 1), HH I x y) := fun d => by rw [e_223]; simp [s_223, aILoad, aRLoad, aLLoad, aIStore, aRStore, aPush, aBin, aBinL, aShL, aUn, aIf, aIc, aGet, aPut, aIald, aBald, aAald, aIast, aBast, aAast, aAlen, aCopy, aCallV, aCallC, aCallI, aRet, aCat, aMax, aMin, aDiv, aRem, aI2l, aL2i, aNul, aSwS, aSw, aInc, aDup, aDup2, aPop1, aIret, aAret, aVret, aLen, aFk, aFT, Value.category, aGetS]
    have h6 : ∀ d, aCall aMt (d + 1) 225 [.ref 2001] (HH I x y) = some (some (.int 0), HH I x y) := fun d => by rw [e_225]; simp [s_225, aILoad, aRLoad, aLLoad, aIStore, aRStore, aPush, aBin, aBinL, aShL, aUn, aIf, aIc, aGet, aPut, aIald, aBald, aAald, aIast, aBast, aAast, aAlen, aCopy, aCallV, aCallC, aCallI, aRet, aCat, aMax, aMin, aDiv, aRem, aI2l, aL2i, aNul, aSwS, aSw, aInc, aDup, aDup2, aPop1, aIret, aAret, aVret, aLen, aFk, aFT, Value.category, aGetS]
    have h7 : ∀ d, aCall aMt (d + 2) 224 [.ref 2001] (HH I x y) = some (some (.int 3), HH I x y) := fun d => by rw [e_224]; simp [s_224, aILoad, aRLoad, aLLoad, aIStore, aRStore, aPush, aBin, aBinL, aShL, aUn, aIf, aIc, aGet, aPut, aIald, aBald, aAald, aIast, aBast, aAast, aAlen, aCopy, aCallV, aCallC, aCallI, aRet, aCat, aMax, aMin, aDiv, aRem, aI2l, aL2i, aNul, aSwS, aSw, aInc, aDup, aDup2, aPop1, aIret, aAret, aVret, aLen, aFk, aFT, Value.category, aGetS, st_tx, aTx, aSt, h6]
    have h8 : ∀ d, aCall aMt (d + 1) 227 [.int (nI n)] (HH I x y) = some (some (.int 1), HH I x y) := fun d => by rw [e_227]; simp [s_227, aILoad, aRLoad, aLLoad, aIStore, aRStore, aPush, aBin, aBinL, aShL, aUn, aIf, aIc, aGet, aPut, aIald, aBald, aAald, aIast, aBast, aAast, aAlen, aCopy, aCallV, aCallC, aCallI, aRet, aCat, aMax, aMin, aDiv, aRem, aI2l, aL2i, aNul, aSwS, aSw, aInc, aDup, aDup2, aPop1, aIret, aAret, aVret, aLen, aFk, aFT, Value.category, c2, c3]
    have h9 : ∀ d, aCall aMt (d + 1) 228 [.ref 2501, .int (nI n), .int 0, .int 3] (HH I x y) = some (some (.int (nix 0 (nI n))), HH I x y) := fun d => by
      rw [e_228]
      by_cases g1 : nI n = 108
      · simp [s_228, s_228_7, aILoad, aRLoad, aLLoad, aIStore, aRStore, aPush, aBin, aBinL, aShL, aUn, aIf, aIc, aGet, aPut, aIald, aBald, aAald, aIast, aBast, aAast, aAlen, aCopy, aCallV, aCallC, aCallI, aRet, aCat, aMax, aMin, aDiv, aRem, aI2l, aL2i, aNul, aSwS, aSw, aInc, aDup, aDup2, aPop1, aIret, aAret, aVret, aLen, aFk, aFT, Value.category, hb, st_tx, aTx, g1, nix]
      by_cases g2 : nI n = 111
      · simp [s_228, s_228_7, aILoad, aRLoad, aLLoad, aIStore, aRStore, aPush, aBin, aBinL, aShL, aUn, aIf, aIc, aGet, aPut, aIald, aBald, aAald, aIast, aBast, aAast, aAlen, aCopy, aCallV, aCallC, aCallI, aRet, aCat, aMax, aMin, aDiv, aRem, aI2l, aL2i, aNul, aSwS, aSw, aInc, aDup, aDup2, aPop1, aIret, aAret, aVret, aLen, aFk, aFT, Value.category, hb, st_tx, aTx, g2, nix]
      by_cases g3 : nI n = 97
      · simp [s_228, s_228_7, aILoad, aRLoad, aLLoad, aIStore, aRStore, aPush, aBin, aBinL, aShL, aUn, aIf, aIc, aGet, aPut, aIald, aBald, aAald, aIast, aBast, aAast, aAlen, aCopy, aCallV, aCallC, aCallI, aRet, aCat, aMax, aMin, aDiv, aRem, aI2l, aL2i, aNul, aSwS, aSw, aInc, aDup, aDup2, aPop1, aIret, aAret, aVret, aLen, aFk, aFT, Value.category, hb, st_tx, aTx, g3, nix]
      · simp [s_228, s_228_7, aILoad, aRLoad, aLLoad, aIStore, aRStore, aPush, aBin, aBinL, aShL, aUn, aIf, aIc, aGet, aPut, aIald, aBald, aAald, aIast, aBast, aAast, aAlen, aCopy, aCallV, aCallC, aCallI, aRet, aCat, aMax, aMin, aDiv, aRem, aI2l, aL2i, aNul, aSwS, aSw, aInc, aDup, aDup2, aPop1, aIret, aAret, aVret, aLen, aFk, aFT, Value.category, hb, st_tx, aTx, g1, g2, g3, nix, show ¬ (108 : Int32) = nI n from fun z => g1 z.symm, show ¬ (111 : Int32) = nI n from fun z => g2 z.symm, show ¬ (97 : Int32) = nI n from fun z => g3 z.symm]
    have h10 : ∀ d, aCall aMt (d + 2) 226 [.ref 2501, .int (nI n), .int 0, .int 3] (HH I x y) = some (some (.int (nix 0 (nI n))), HH I x y) := fun d => by
      rw [e_226]; simp [s_226, aILoad, aRLoad, aLLoad, aIStore, aRStore, aPush, aBin, aBinL, aShL, aUn, aIf, aIc, aGet, aPut, aIald, aBald, aAald, aIast, aBast, aAast, aAlen, aCopy, aCallV, aCallC, aCallI, aRet, aCat, aMax, aMin, aDiv, aRem, aI2l, aL2i, aNul, aSwS, aSw, aInc, aDup, aDup2, aPop1, aIret, aAret, aVret, aLen, aFk, aFT, Value.category, h8, st_tx, aTx, aSt, h9]
    have h11 : ∀ d, aCall aMt (d + 3) 222 [.ref 2001, .int (nI n), .int 0] (HH I x y) = some (some (.int (nix 0 (nI n))), HH I x y) := fun d => by
      rw [e_222]; simp [s_222, aILoad, aRLoad, aLLoad, aIStore, aRStore, aPush, aBin, aBinL, aShL, aUn, aIf, aIc, aGet, aPut, aIald, aBald, aAald, aIast, aBast, aAast, aAlen, aCopy, aCallV, aCallC, aCallI, aRet, aCat, aMax, aMin, aDiv, aRem, aI2l, aL2i, aNul, aSwS, aSw, aInc, aDup, aDup2, aPop1, aIret, aAret, aVret, aLen, aFk, aFT, Value.category, aGetS, h5, h7, h10]
    rw [e_221]; simp [s_221, aILoad, aRLoad, aLLoad, aIStore, aRStore, aPush, aBin, aBinL, aShL, aUn, aIf, aIc, aGet, aPut, aIald, aBald, aAald, aIast, aBast, aAast, aAlen, aCopy, aCallV, aCallC, aCallI, aRet, aCat, aMax, aMin, aDiv, aRem, aI2l, aL2i, aNul, aSwS, aSw, aInc, aDup, aDup2, aPop1, aIret, aAret, aVret, aLen, aFk, aFT, Value.category, h11]
  · have h5 : ∀ d, aCall aMt (d + 1) 223 [.ref 2002] (HH I x y) = some (some (.int 1), HH I x y) := fun d => by rw [e_223]; simp [s_223, aILoad, aRLoad, aLLoad, aIStore, aRStore, aPush, aBin, aBinL, aShL, aUn, aIf, aIc, aGet, aPut, aIald, aBald, aAald, aIast, aBast, aAast, aAlen, aCopy, aCallV, aCallC, aCallI, aRet, aCat, aMax, aMin, aDiv, aRem, aI2l, aL2i, aNul, aSwS, aSw, aInc, aDup, aDup2, aPop1, aIret, aAret, aVret, aLen, aFk, aFT, Value.category, aGetS]
    have h6 : ∀ d, aCall aMt (d + 1) 225 [.ref 2002] (HH I x y) = some (some (.int 0), HH I x y) := fun d => by rw [e_225]; simp [s_225, aILoad, aRLoad, aLLoad, aIStore, aRStore, aPush, aBin, aBinL, aShL, aUn, aIf, aIc, aGet, aPut, aIald, aBald, aAald, aIast, aBast, aAast, aAlen, aCopy, aCallV, aCallC, aCallI, aRet, aCat, aMax, aMin, aDiv, aRem, aI2l, aL2i, aNul, aSwS, aSw, aInc, aDup, aDup2, aPop1, aIret, aAret, aVret, aLen, aFk, aFT, Value.category, aGetS]
    have h7 : ∀ d, aCall aMt (d + 2) 224 [.ref 2002] (HH I x y) = some (some (.int 3), HH I x y) := fun d => by rw [e_224]; simp [s_224, aILoad, aRLoad, aLLoad, aIStore, aRStore, aPush, aBin, aBinL, aShL, aUn, aIf, aIc, aGet, aPut, aIald, aBald, aAald, aIast, aBast, aAast, aAlen, aCopy, aCallV, aCallC, aCallI, aRet, aCat, aMax, aMin, aDiv, aRem, aI2l, aL2i, aNul, aSwS, aSw, aInc, aDup, aDup2, aPop1, aIret, aAret, aVret, aLen, aFk, aFT, Value.category, aGetS, st_tx, aTx, aSt, h6]
    have h8 : ∀ d, aCall aMt (d + 1) 227 [.int (nI n)] (HH I x y) = some (some (.int 1), HH I x y) := fun d => by rw [e_227]; simp [s_227, aILoad, aRLoad, aLLoad, aIStore, aRStore, aPush, aBin, aBinL, aShL, aUn, aIf, aIc, aGet, aPut, aIald, aBald, aAald, aIast, aBast, aAast, aAlen, aCopy, aCallV, aCallC, aCallI, aRet, aCat, aMax, aMin, aDiv, aRem, aI2l, aL2i, aNul, aSwS, aSw, aInc, aDup, aDup2, aPop1, aIret, aAret, aVret, aLen, aFk, aFT, Value.category, c2, c3]
    have h9 : ∀ d, aCall aMt (d + 1) 228 [.ref 2502, .int (nI n), .int 0, .int 3] (HH I x y) = some (some (.int (nix 1 (nI n))), HH I x y) := fun d => by
      rw [e_228]
      by_cases g1 : nI n = 108
      · simp [s_228, s_228_7, aILoad, aRLoad, aLLoad, aIStore, aRStore, aPush, aBin, aBinL, aShL, aUn, aIf, aIc, aGet, aPut, aIald, aBald, aAald, aIast, aBast, aAast, aAlen, aCopy, aCallV, aCallC, aCallI, aRet, aCat, aMax, aMin, aDiv, aRem, aI2l, aL2i, aNul, aSwS, aSw, aInc, aDup, aDup2, aPop1, aIret, aAret, aVret, aLen, aFk, aFT, Value.category, hb, st_tx, aTx, g1, nix]
      by_cases g2 : nI n = 115
      · simp [s_228, s_228_7, aILoad, aRLoad, aLLoad, aIStore, aRStore, aPush, aBin, aBinL, aShL, aUn, aIf, aIc, aGet, aPut, aIald, aBald, aAald, aIast, aBast, aAast, aAlen, aCopy, aCallV, aCallC, aCallI, aRet, aCat, aMax, aMin, aDiv, aRem, aI2l, aL2i, aNul, aSwS, aSw, aInc, aDup, aDup2, aPop1, aIret, aAret, aVret, aLen, aFk, aFT, Value.category, hb, st_tx, aTx, g2, nix]
      by_cases g3 : nI n = 111
      · simp [s_228, s_228_7, aILoad, aRLoad, aLLoad, aIStore, aRStore, aPush, aBin, aBinL, aShL, aUn, aIf, aIc, aGet, aPut, aIald, aBald, aAald, aIast, aBast, aAast, aAlen, aCopy, aCallV, aCallC, aCallI, aRet, aCat, aMax, aMin, aDiv, aRem, aI2l, aL2i, aNul, aSwS, aSw, aInc, aDup, aDup2, aPop1, aIret, aAret, aVret, aLen, aFk, aFT, Value.category, hb, st_tx, aTx, g3, nix]
      · simp [s_228, s_228_7, aILoad, aRLoad, aLLoad, aIStore, aRStore, aPush, aBin, aBinL, aShL, aUn, aIf, aIc, aGet, aPut, aIald, aBald, aAald, aIast, aBast, aAast, aAlen, aCopy, aCallV, aCallC, aCallI, aRet, aCat, aMax, aMin, aDiv, aRem, aI2l, aL2i, aNul, aSwS, aSw, aInc, aDup, aDup2, aPop1, aIret, aAret, aVret, aLen, aFk, aFT, Value.category, hb, st_tx, aTx, g1, g2, g3, nix, show ¬ (108 : Int32) = nI n from fun z => g1 z.symm, show ¬ (115 : Int32) = nI n from fun z => g2 z.symm, show ¬ (111 : Int32) = nI n from fun z => g3 z.symm]
    have h10 : ∀ d, aCall aMt (d + 2) 226 [.ref 2502, .int (nI n), .int 0, .int 3] (HH I x y) = some (some (.int (nix 1 (nI n))), HH I x y) := fun d => by
      rw [e_226]; simp [s_226, aILoad, aRLoad, aLLoad, aIStore, aRStore, aPush, aBin, aBinL, aShL, aUn, aIf, aIc, aGet, aPut, aIald, aBald, aAald, aIast, aBast, aAast, aAlen, aCopy, aCallV, aCallC, aCallI, aRet, aCat, aMax, aMin, aDiv, aRem, aI2l, aL2i, aNul, aSwS, aSw, aInc, aDup, aDup2, aPop1, aIret, aAret, aVret, aLen, aFk, aFT, Value.category, h8, st_tx, aTx, aSt, h9]
    have h11 : ∀ d, aCall aMt (d + 3) 222 [.ref 2002, .int (nI n), .int 0] (HH I x y) = some (some (.int (nix 1 (nI n))), HH I x y) := fun d => by
      rw [e_222]; simp [s_222, aILoad, aRLoad, aLLoad, aIStore, aRStore, aPush, aBin, aBinL, aShL, aUn, aIf, aIc, aGet, aPut, aIald, aBald, aAald, aIast, aBast, aAast, aAlen, aCopy, aCallV, aCallC, aCallI, aRet, aCat, aMax, aMin, aDiv, aRem, aI2l, aL2i, aNul, aSwS, aSw, aInc, aDup, aDup2, aPop1, aIret, aAret, aVret, aLen, aFk, aFT, Value.category, aGetS, h5, h7, h10]
    rw [e_221]; simp [s_221, aILoad, aRLoad, aLLoad, aIStore, aRStore, aPush, aBin, aBinL, aShL, aUn, aIf, aIc, aGet, aPut, aIald, aBald, aAald, aIast, aBast, aAast, aAlen, aCopy, aCallV, aCallC, aCallI, aRet, aCat, aMax, aMin, aDiv, aRem, aI2l, aL2i, aNul, aSwS, aSw, aInc, aDup, aDup2, aPop1, aIret, aAret, aVret, aLen, aFk, aFT, Value.category, h11]
end TEXT1
