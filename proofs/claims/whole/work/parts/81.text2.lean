/-! TEXTS: bytes read, steps laid, numbers -/
def pX (f L : Nat) (X : Nat → Nat → Int32) (rb : Nat → Int32) : Prop := L ≤ 60 ∧ ∀ i, i < L → bRel (X (f + 11) i) (rb i)
def pY (L : Nat) (Y : Nat → Nat → Int32) (rb : Nat → Int32) : Prop := L ≤ 60 ∧ Y 114 5 = nI L ∧ ∀ i, i < L → Y 114 (370 + i) = rb i
def isNm (u : Nat) (c : Int32) : Prop := c = 108 ∨ c = 111 ∨ (u = 0 ∧ c = 97) ∨ (¬ u = 0 ∧ c = 115)
theorem nix_nm {u : Nat} {c : Int32} (h : isNm u c) : nix u c = idx u c ∧ 0 ≤ nix u c := by
  unfold nix idx
  rcases h with rfl | rfl | ⟨rfl, rfl⟩ | ⟨hu, rfl⟩
  · by_cases h : u = 0 <;> simp [h]
  · by_cases h : u = 0 <;> simp [h] <;> decide
  · simp
  · simp [hu]
theorem nix_no {u : Nat} {c : Int32} (h : ¬ isNm u c) : nix u c = -1 := by
  unfold nix
  have h1 : ¬ c = 108 := fun z => h (Or.inl z)
  have h2 : ¬ c = 111 := fun z => h (Or.inr (Or.inl z))
  by_cases hu : u = 0
  · have h3 : ¬ c = 97 := fun z => h (Or.inr (Or.inr (Or.inl ⟨hu, z⟩)))
    simp [hu, h1, h2, h3]
  · have h3 : ¬ c = 115 := fun z => h (Or.inr (Or.inr (Or.inr ⟨hu, z⟩)))
    simp [hu, h1, h2, h3]
theorem isNm_ix {u n : Nat} (h : isNm u (nI n)) (hn : n < 128) : n = 108 ∨ n = 111 ∨ n = 97 ∨ n = 115 := by
  rcases h with z | z | ⟨_, z⟩ | ⟨_, z⟩
  · exact Or.inl ((nI_eq (b := 108) (by omega) (by omega)).mp z)
  · exact Or.inr (Or.inl ((nI_eq (b := 111) (by omega) (by omega)).mp z))
  · exact Or.inr (Or.inr (Or.inl ((nI_eq (b := 97) (by omega) (by omega)).mp z)))
  · exact Or.inr (Or.inr (Or.inr ((nI_eq (b := 115) (by omega) (by omega)).mp z)))
def rdN (rb : Nat → Int32) (L : Nat) : Nat → Nat → Nat → Nat × Nat
  | 0, a, v => (a, v)
  | j + 1, a, v => if a < L ∧ 48 ≤ rb a ∧ rb a ≤ 57 then rdN rb L j (a + 1) (10 * v + ((rb a).toNatClampNeg - 48)) else (a, v)
theorem rdN_le {rb : Nat → Int32} {L : Nat} : ∀ (j a v : Nat), a ≤ L → a ≤ (rdN rb L j a v).1 ∧ (rdN rb L j a v).1 ≤ L
  | 0, a, v, h => ⟨Nat.le_refl a, h⟩
  | j + 1, a, v, h => by
    rw [rdN]; split
    · next c => have := rdN_le (rb := rb) (L := L) j (a + 1) (10 * v + ((rb a).toNatClampNeg - 48)) (by omega); exact ⟨by omega, this.2⟩
    · exact ⟨Nat.le_refl a, h⟩
theorem rdN_lt {rb : Nat → Int32} {L j a v : Nat} (h : a < L ∧ 48 ≤ rb a ∧ rb a ≤ 57) : a < (rdN rb L (j + 1) a v).1 := by
  rw [rdN, if_pos h]
  have := (rdN_le (rb := rb) (L := L) j (a + 1) (10 * v + ((rb a).toNatClampNeg - 48)) (by omega)).1
  omega
/-- steps that lead the pile from so many to so many -/
def okL (u : Nat) : Nat → List (Int32 × Int32) → Nat → Prop
  | D, [], E => D = E
  | D, s :: r, E => (s.1 = 0 ∧ okL u (D + 1) r E) ∨ (s.1 = 1 ∧ isNm u s.2 ∧ okL u (D + 1) r E) ∨ (s.1 = 2 ∧ 1 ≤ D ∧ okL u D r E) ∨ (s.1 = 3 ∧ 2 ≤ D ∧ isSign s.2 ∧ okL u (D - 1) r E)
theorem okL_app {u : Nat} : ∀ {s t : List (Int32 × Int32)} {D E F : Nat}, okL u D s E → okL u E t F → okL u D (s ++ t) F
  | [], t, D, E, F, h, h2 => by
    have : D = E := h
    subst this; exact h2
  | a :: r, t, D, E, F, h, h2 => by
    rcases h with ⟨h0, h1⟩ | ⟨h0, hn, h1⟩ | ⟨h0, hd, h1⟩ | ⟨h0, hd, hs, h1⟩
    · exact Or.inl ⟨h0, okL_app h1 h2⟩
    · exact Or.inr (Or.inl ⟨h0, hn, okL_app h1 h2⟩)
    · exact Or.inr (Or.inr (Or.inl ⟨h0, hd, okL_app h1 h2⟩))
    · exact Or.inr (Or.inr (Or.inr ⟨h0, hd, hs, okL_app h1 h2⟩))
section TEXT2
variable {d : Nat} {I : Nat → Nat → Int32} {x y : Option Nat}
theorem k_app {u L a : Nat} {X : Nat → Nat → Int32} {st : List (Int32 × Int32)} {s : Int32 × Int32} (h : CS u L X a st I) (hl : st.length < 60) : aCall aMt (d + 1) 23 [.ref 95, .int (cS u s).1, .int (cS u s).2] (HH I x y) = some (none, HH (aUpd (aUpd (aUpd I 96 st.length (cS u s).1) 97 st.length (cS u s).2) 95 4 (nI (st.length + 1))) x y) :=
  k_append (la := 95) (by unfold isL; omega) h.2.2.1 hl
theorem k_num_loop {f L u : Nat} {X : Nat → Nat → Int32} {rb : Nat → Int32} {st : List (Int32 × Int32)} {nm : Option Nat} (hf : isF f) (hX : pX f L X rb) (hl : st.length < 60) : ∀ j a v i (I : Nat → Nat → Int32), i + j = 4 → a ≤ L → CS u L X a st I →
    ∃ I1, aGo (aCall aMt (d + 1)) none cd_43 3 4 [some (.ref 94), some (.int (nI v)), some (.int (nI i))] [] (HH I (some (f + 11)) nm) = some (none, HH I1 (some (f + 11)) nm) ∧ CS u L X (rdN rb L j a v).1 (st ++ [(0, nI (rdN rb L j a v).2)]) I1 := by
  have hL := hX.1
  have hff : f ≤ 63 := by rcases hf with rfl | rfl | rfl <;> omega
  have stop : ∀ a v (i : Nat) (I : Nat → Nat → Int32), CS u L X a st I → aGo (aCall aMt (d + 1)) none cd_43 3 73 [some (.ref 94), some (.int (nI v)), some (.int (nI i))] [] (HH I (some (f + 11)) nm) = some (none, HH (aUpd (aUpd (aUpd I 96 st.length 110) 97 st.length (nI v)) 95 4 (nI (st.length + 1))) (some (f + 11)) nm) := by
    intro a v i I hI
    have ka := k_app (d := d) (x := some (f + 11)) (y := nm) (s := (0, nI v)) hI hl
    rw [show (cS u (0, nI v)).1 = 110 from rfl, show (cS u (0, nI v)).2 = nI v from rfl] at ka
    simp [s_43, aILoad, aRLoad, aLLoad, aIStore, aRStore, aPush, aBin, aBinL, aShL, aUn, aIf, aIc, aGet, aPut, aIald, aBald, aAald, aIast, aBast, aAast, aAlen, aCopy, aCallV, aCallC, aCallI, aRet, aCat, aMax, aMin, aDiv, aRem, aI2l, aL2i, aNul, aSwS, aSw, aInc, aDup, aDup2, aPop1, aIret, aAret, aVret, aLen, aFk, aFT, Value.category, c_sh, c_q, ka]
  intro j
  induction j with
  | zero =>
    intro a v i I hi ha hI
    obtain rfl : i = 4 := by omega
    have g1 : (4 : Int32) ≤ nI 4 := by decide
    refine ⟨_, ?_, hI.app (s := (0, nI v))⟩
    rw [show (cS u (0, nI v)).1 = 110 from rfl, show (cS u (0, nI v)).2 = nI v from rfl, ← stop a v 4 I hI, s_43_4]
    simp [s_43, aILoad, aRLoad, aLLoad, aIStore, aRStore, aPush, aBin, aBinL, aShL, aUn, aIf, aIc, aGet, aPut, aIald, aBald, aAald, aIast, aBast, aAast, aAlen, aCopy, aCallV, aCallC, aCallI, aRet, aCat, aMax, aMin, aDiv, aRem, aI2l, aL2i, aNul, aSwS, aSw, aInc, aDup, aDup2, aPop1, aIret, aAret, aVret, aLen, aFk, aFT, Value.category, g1]
  | succ j ih =>
    intro a v i I hi ha hI
    have g1 : ¬ (4 : Int32) ≤ nI i := nI_ge (b := 4) (by omega) (by omega)
    by_cases hd : a < L ∧ 48 ≤ rb a ∧ rb a ≤ 57
    · obtain ⟨h1, h2, h3⟩ := hd
      have hb := hX.2 a h1
      rw [show rdN rb L (j + 1) a v = rdN rb L j (a + 1) (10 * v + ((rb a).toNatClampNeg - 48)) by rw [rdN, if_pos ⟨h1, h2, h3⟩]]
      obtain ⟨n, n1, n2, hr⟩ := (isIn' (v := rb a) (a := 48) (b := 57) (by omega) (by omega)).mp ⟨h2, h3⟩
      have hc : X (f + 11) a = rb a := by
        rcases bRel_c hb with ⟨e, _⟩ | ⟨⟨_, hk⟩, _⟩
        · exact e
        · exact absurd hr (hk n (by omega)).2
      have tn : (rb a).toNatClampNeg = n := by rw [hr, toNat_nI (by omega)]
      rw [tn]
      obtain ⟨I1, r1, r2⟩ := ih (a + 1) (10 * v + (n - 48)) (i + 1) (aUpd I 94 3 (nI (a + 1))) (by omega) (by omega) hI.at
      refine ⟨I1, ?_, r2⟩
      have hi11 : I (f + 11) a = nI n := by rw [hI.2.2.2.2 (f + 11) (by omega) (by omega) (by omega) (by omega), hc, hr]
      have g2 : ¬ nI L ≤ nI a := nI_ge h1 (by omega)
      have g3 : (48 : Int32) ≤ nI n ∧ nI n ≤ 57 := by rw [← hr]; exact ⟨h2, h3⟩
      have g4 : (10 : Int32) * nI v + (nI n - 48) = nI (10 * v + (n - 48)) := by
        rw [show (48 : Int32) = nI 48 from rfl, pk_sub n1, show (10 : Int32) = nI 10 from rfl, pk_mul, nI_add]
      rw [s_43_4, ← r1]
      simp [s_43, aILoad, aRLoad, aLLoad, aIStore, aRStore, aPush, aBin, aBinL, aShL, aUn, aIf, aIc, aGet, aPut, aIald, aBald, aAald, aIast, aBast, aAast, aAlen, aCopy, aCallV, aCallC, aCallI, aRet, aCat, aMax, aMin, aDiv, aRem, aI2l, aL2i, aNul, aSwS, aSw, aInc, aDup, aDup2, aPop1, aIret, aAret, aVret, aLen, aFk, aFT, Value.category, c_sh, c_q, f_sh hf, g1, hI.1, hI.2.1, g2, hi11, k_isIn, g3, g4, toNat_nI (show a < 2 ^ 31 by omega), nI_lt0 (show a < 2 ^ 31 by omega), show ¬ 60 ≤ a by omega, nI_1]
    · rw [show rdN rb L (j + 1) a v = (a, v) by rw [rdN, if_neg hd]]
      refine ⟨_, ?_, hI.app (s := (0, nI v))⟩
      rw [show (cS u (0, nI v)).1 = 110 from rfl, show (cS u (0, nI v)).2 = nI v from rfl, ← stop a v i I hI, s_43_4]
      by_cases h1 : a < L
      · have hb := hX.2 a h1
        have g2 : ¬ nI L ≤ nI a := nI_ge h1 (by omega)
        have hi11 : I (f + 11) a = X (f + 11) a := by rw [hI.2.2.2.2 (f + 11) (by omega) (by omega) (by omega) (by omega)]
        have g3 : ¬ (48 ≤ X (f + 11) a ∧ X (f + 11) a ≤ 57) := fun z => by
          rcases bRel_c hb with ⟨e, _⟩ | ⟨⟨hc, _⟩, _⟩
          · rw [e] at z; exact hd ⟨h1, z⟩
          · exact absurd (Int32.lt_of_le_of_lt z.1 hc) (by decide)
        simp [s_43, aILoad, aRLoad, aLLoad, aIStore, aRStore, aPush, aBin, aBinL, aShL, aUn, aIf, aIc, aGet, aPut, aIald, aBald, aAald, aIast, aBast, aAast, aAlen, aCopy, aCallV, aCallC, aCallI, aRet, aCat, aMax, aMin, aDiv, aRem, aI2l, aL2i, aNul, aSwS, aSw, aInc, aDup, aDup2, aPop1, aIret, aAret, aVret, aLen, aFk, aFT, Value.category, c_sh, c_q, f_sh hf, g1, hI.1, hI.2.1, g2, hi11, k_isIn, g3, toNat_nI (show a < 2 ^ 31 by omega), nI_lt0 (show a < 2 ^ 31 by omega), show ¬ 60 ≤ a by omega]
      · have g2 : nI L ≤ nI a := nI_le (by omega) (by omega)
        simp [s_43, aILoad, aRLoad, aLLoad, aIStore, aRStore, aPush, aBin, aBinL, aShL, aUn, aIf, aIc, aGet, aPut, aIald, aBald, aAald, aIast, aBast, aAast, aAlen, aCopy, aCallV, aCallC, aCallI, aRet, aCat, aMax, aMin, aDiv, aRem, aI2l, aL2i, aNul, aSwS, aSw, aInc, aDup, aDup2, aPop1, aIret, aAret, aVret, aLen, aFk, aFT, Value.category, c_sh, c_q, g1, hI.1, hI.2.1, g2]
theorem k_number {f L u a : Nat} {X : Nat → Nat → Int32} {rb : Nat → Int32} {st : List (Int32 × Int32)} {nm : Option Nat} (hf : isF f) (hX : pX f L X rb) (hl : st.length < 60) (ha : a ≤ L) (h : CS u L X a st I) :
    ∃ I1, aCall aMt (d + 2) 43 [.ref 94] (HH I (some (f + 11)) nm) = some (none, HH I1 (some (f + 11)) nm) ∧ CS u L X (rdN rb L 4 a 0).1 (st ++ [(0, nI (rdN rb L 4 a 0).2)]) I1 := by
  obtain ⟨I1, r1, r2⟩ := k_num_loop (d := d) (nm := nm) hf hX hl 4 a 0 0 I (by omega) ha h
  refine ⟨I1, ?_, r2⟩
  rw [nI_lit0] at r1
  rw [e_43, ← r1]
  simp [s_43, aILoad, aRLoad, aLLoad, aIStore, aRStore, aPush, aBin, aBinL, aShL, aUn, aIf, aIc, aGet, aPut, aIald, aBald, aAald, aIast, aBast, aAast, aAlen, aCopy, aCallV, aCallC, aCallI, aRet, aCat, aMax, aMin, aDiv, aRem, aI2l, aL2i, aNul, aSwS, aSw, aInc, aDup, aDup2, aPop1, aIret, aAret, aVret, aLen, aFk, aFT, Value.category]
theorem r_look {L a : Nat} {Y : Nat → Nat → Int32} {rb : Nat → Int32} (hY : pY L Y rb) (ha : a ≤ L) (h : RFl Y a I) : aCall aMt (d + 1) 132 [.ref 113] (HH I x y) = some (some (.int (lk rb L a)), HH I x y) := by
  obtain ⟨hL, h5, hr⟩ := hY
  have e114 : I 114 = Y 114 := h.2.1 114 (by omega) (by omega)
  have ix : (370 : Int32) + nI a = nI (370 + a) := nI_add 370 a
  rw [e_132]
  unfold lk
  by_cases c : a < L
  · have g2 : ¬ nI L ≤ nI a := nI_ge c (by omega)
    simp [s_132, aILoad, aRLoad, aLLoad, aIStore, aRStore, aPush, aBin, aBinL, aShL, aUn, aIf, aIc, aGet, aPut, aIald, aBald, aAald, aIast, aBast, aAast, aAlen, aCopy, aCallV, aCallC, aCallI, aRet, aCat, aMax, aMin, aDiv, aRem, aI2l, aL2i, aNul, aSwS, aSw, aInc, aDup, aDup2, aPop1, aIret, aAret, aVret, aLen, aFk, aFT, Value.category, m_sh, m_p, h.1, e114, h5, g2, ix, hr a c, c, toNat_nI (show 370 + a < 2 ^ 31 by omega), nI_lt0 (show 370 + a < 2 ^ 31 by omega), show ¬ 454 ≤ 370 + a by omega]
  · have g2 : nI L ≤ nI a := nI_le (by omega) (by omega)
    simp [s_132, aILoad, aRLoad, aLLoad, aIStore, aRStore, aPush, aBin, aBinL, aShL, aUn, aIf, aIc, aGet, aPut, aIald, aBald, aAald, aIast, aBast, aAast, aAlen, aCopy, aCallV, aCallC, aCallI, aRet, aCat, aMax, aMin, aDiv, aRem, aI2l, aL2i, aNul, aSwS, aSw, aInc, aDup, aDup2, aPop1, aIret, aAret, aVret, aLen, aFk, aFT, Value.category, m_sh, m_p, h.1, e114, h5, g2, c]
theorem r_isName {u : Nat} {c : Int32} (hu : u < 2) (h : I 113 8 = nI u) : (isNm u c → aCall aMt (d + 1) 133 [.ref 113, .int c] (HH I x y) = some (some (.int 1), HH I x y)) ∧ (¬ isNm u c → aCall aMt (d + 1) 133 [.ref 113, .int c] (HH I x y) = some (some (.int 0), HH I x y)) := by
  refine ⟨fun hn => ?_, fun hn => ?_⟩
  · rw [e_133]
    rcases hn with rfl | rfl | ⟨rfl, rfl⟩ | ⟨h0, rfl⟩
    · simp [s_133, aILoad, aRLoad, aLLoad, aIStore, aRStore, aPush, aBin, aBinL, aShL, aUn, aIf, aIc, aGet, aPut, aIald, aBald, aAald, aIast, aBast, aAast, aAlen, aCopy, aCallV, aCallC, aCallI, aRet, aCat, aMax, aMin, aDiv, aRem, aI2l, aL2i, aNul, aSwS, aSw, aInc, aDup, aDup2, aPop1, aIret, aAret, aVret, aLen, aFk, aFT, Value.category, m_sh]
    · simp [s_133, aILoad, aRLoad, aLLoad, aIStore, aRStore, aPush, aBin, aBinL, aShL, aUn, aIf, aIc, aGet, aPut, aIald, aBald, aAald, aIast, aBast, aAast, aAlen, aCopy, aCallV, aCallC, aCallI, aRet, aCat, aMax, aMin, aDiv, aRem, aI2l, aL2i, aNul, aSwS, aSw, aInc, aDup, aDup2, aPop1, aIret, aAret, aVret, aLen, aFk, aFT, Value.category, m_sh]
    · rw [nI_lit0] at h; simp [s_133, aILoad, aRLoad, aLLoad, aIStore, aRStore, aPush, aBin, aBinL, aShL, aUn, aIf, aIc, aGet, aPut, aIald, aBald, aAald, aIast, aBast, aAast, aAlen, aCopy, aCallV, aCallC, aCallI, aRet, aCat, aMax, aMin, aDiv, aRem, aI2l, aL2i, aNul, aSwS, aSw, aInc, aDup, aDup2, aPop1, aIret, aAret, aVret, aLen, aFk, aFT, Value.category, m_sh, h]
    · obtain rfl : u = 1 := by omega
      rw [nI_lit1] at h; simp [s_133, aILoad, aRLoad, aLLoad, aIStore, aRStore, aPush, aBin, aBinL, aShL, aUn, aIf, aIc, aGet, aPut, aIald, aBald, aAald, aIast, aBast, aAast, aAlen, aCopy, aCallV, aCallC, aCallI, aRet, aCat, aMax, aMin, aDiv, aRem, aI2l, aL2i, aNul, aSwS, aSw, aInc, aDup, aDup2, aPop1, aIret, aAret, aVret, aLen, aFk, aFT, Value.category, m_sh, h]
  · have h1 : ¬ c = 108 := fun z => hn (Or.inl z)
    have h2 : ¬ c = 111 := fun z => hn (Or.inr (Or.inl z))
    rw [e_133]
    by_cases h0 : u = 0
    · have h3 : ¬ c = 97 := fun z => hn (Or.inr (Or.inr (Or.inl ⟨h0, z⟩)))
      subst h0
      rw [nI_lit0] at h; simp [s_133, aILoad, aRLoad, aLLoad, aIStore, aRStore, aPush, aBin, aBinL, aShL, aUn, aIf, aIc, aGet, aPut, aIald, aBald, aAald, aIast, aBast, aAast, aAlen, aCopy, aCallV, aCallC, aCallI, aRet, aCat, aMax, aMin, aDiv, aRem, aI2l, aL2i, aNul, aSwS, aSw, aInc, aDup, aDup2, aPop1, aIret, aAret, aVret, aLen, aFk, aFT, Value.category, m_sh, h, h1, h2, h3]
    · have h3 : ¬ c = 115 := fun z => hn (Or.inr (Or.inr (Or.inr ⟨h0, z⟩)))
      obtain rfl : u = 1 := by omega
      rw [nI_lit1] at h; simp [s_133, aILoad, aRLoad, aLLoad, aIStore, aRStore, aPush, aBin, aBinL, aShL, aUn, aIf, aIc, aGet, aPut, aIald, aBald, aAald, aIast, aBast, aAast, aAlen, aCopy, aCallV, aCallC, aCallI, aRet, aCat, aMax, aMin, aDiv, aRem, aI2l, aL2i, aNul, aSwS, aSw, aInc, aDup, aDup2, aPop1, aIret, aAret, aVret, aLen, aFk, aFT, Value.category, m_sh, h, h1, h2, h3]
theorem r_step1 {u a o : Nat} {Y : Nat → Nat → Int32} {st : List (Int32 × Int32)} {w v : Int32} (h : RS u Y a o st I) (hl : st.length < 62) : aCall aMt (d + 1) 134 [.ref 113, .int w, .int v] (HH I x y) = some (none, HH (aUpd (aUpd (aUpd I 118 (2 * st.length) w) 118 (2 * st.length + 1) v) 113 7 (nI (st.length + 1))) x y) := by
  have e7 := h.2.2.1
  have n1 : ∀ (J : Nat → Nat → Int32) k v, aUpd J 118 k v 113 = J 113 := fun J k v => aUpd_ne (by omega)
  rw [e_134]
  simp [s_134, aILoad, aRLoad, aLLoad, aIStore, aRStore, aPush, aBin, aBinL, aShL, aUn, aIf, aIc, aGet, aPut, aIald, aBald, aAald, aIast, aBast, aAast, aAlen, aCopy, aCallV, aCallC, aCallI, aRet, aCat, aMax, aMin, aDiv, aRem, aI2l, aL2i, aNul, aSwS, aSw, aInc, aDup, aDup2, aPop1, aIret, aAret, aVret, aLen, aFk, aFT, Value.category, m_sh, m_p, e7, n1, nI_m2, toNat_nI (show 2 * st.length < 2 ^ 31 by omega), nI_lt0 (show 2 * st.length < 2 ^ 31 by omega), show ¬ 124 ≤ 2 * st.length by omega, toNat_nI (show 2 * st.length + 1 < 2 ^ 31 by omega), nI_lt0 (show 2 * st.length + 1 < 2 ^ 31 by omega), show ¬ 124 ≤ 2 * st.length + 1 by omega, nI_1]
theorem r_num_loop {L u o : Nat} {c : Int32} {Y : Nat → Nat → Int32} {rb : Nat → Int32} {st : List (Int32 × Int32)} (hY : pY L Y rb) (hl : st.length < 60) : ∀ j a v i (I : Nat → Nat → Int32), i + j = 4 → a ≤ L → RS u Y a o st I →
    ∃ I1, aGo (aCall aMt (d + 1)) none cd_141 1 46 [some (.ref 113), some (.int c), some (.int (nI v)), some (.int (nI i))] [] (HH I x y) = some (some (.int 1), HH I1 x y) ∧ RS u Y (rdN rb L j a v).1 o (st ++ [(0, nI (rdN rb L j a v).2)]) I1 := by
  have hL := hY.1
  have stop : ∀ a v (i : Nat) (I : Nat → Nat → Int32), RS u Y a o st I → aGo (aCall aMt (d + 1)) none cd_141 1 94 [some (.ref 113), some (.int c), some (.int (nI v)), some (.int (nI i))] [] (HH I x y) = some (some (.int 1), HH (aUpd (aUpd (aUpd I 118 (2 * st.length) 0) 118 (2 * st.length + 1) (nI v)) 113 7 (nI (st.length + 1))) x y) := by
    intro a v i I hI
    have ka := r_step1 (d := d) (x := x) (y := y) (w := 0) (v := nI v) hI (by omega)
    simp [s_141, aILoad, aRLoad, aLLoad, aIStore, aRStore, aPush, aBin, aBinL, aShL, aUn, aIf, aIc, aGet, aPut, aIald, aBald, aAald, aIast, aBast, aAast, aAlen, aCopy, aCallV, aCallC, aCallI, aRet, aCat, aMax, aMin, aDiv, aRem, aI2l, aL2i, aNul, aSwS, aSw, aInc, aDup, aDup2, aPop1, aIret, aAret, aVret, aLen, aFk, aFT, Value.category, m_sh, m_p, ka]
  intro j
  induction j with
  | zero =>
    intro a v i I hi ha hI
    obtain rfl : i = 4 := by omega
    have g1 : (4 : Int32) ≤ nI 4 := by decide
    refine ⟨_, ?_, hI.app (w := 0) (v := nI v)⟩
    rw [← stop a v 4 I hI, s_141_46]
    simp [s_141, aILoad, aRLoad, aLLoad, aIStore, aRStore, aPush, aBin, aBinL, aShL, aUn, aIf, aIc, aGet, aPut, aIald, aBald, aAald, aIast, aBast, aAast, aAlen, aCopy, aCallV, aCallC, aCallI, aRet, aCat, aMax, aMin, aDiv, aRem, aI2l, aL2i, aNul, aSwS, aSw, aInc, aDup, aDup2, aPop1, aIret, aAret, aVret, aLen, aFk, aFT, Value.category, g1]
  | succ j ih =>
    intro a v i I hi ha hI
    have g1 : ¬ (4 : Int32) ≤ nI i := nI_ge (b := 4) (by omega) (by omega)
    have rl := r_look (d := d) (x := x) (y := y) hY ha hI.f
    by_cases hd : a < L ∧ 48 ≤ rb a ∧ rb a ≤ 57
    · obtain ⟨h1, h2, h3⟩ := hd
      rw [show rdN rb L (j + 1) a v = rdN rb L j (a + 1) (10 * v + ((rb a).toNatClampNeg - 48)) by rw [rdN, if_pos ⟨h1, h2, h3⟩]]
      obtain ⟨n, n1, n2, hr⟩ := (isIn' (v := rb a) (a := 48) (b := 57) (by omega) (by omega)).mp ⟨h2, h3⟩
      have tn : (rb a).toNatClampNeg = n := by rw [hr, toNat_nI (by omega)]
      rw [tn]
      obtain ⟨I1, r1, r2⟩ := ih (a + 1) (10 * v + (n - 48)) (i + 1) (aUpd I 113 5 (nI (a + 1))) (by omega) (by omega) hI.at
      refine ⟨I1, ?_, r2⟩
      rw [show lk rb L a = nI n by unfold lk; rw [if_pos h1, hr]] at rl
      have g3 : (48 : Int32) ≤ nI n ∧ nI n ≤ 57 := by rw [← hr]; exact ⟨h2, h3⟩
      have g4 : (10 : Int32) * nI v + nI n - 48 = nI (10 * v + (n - 48)) := by
        rw [show (10 : Int32) = nI 10 from rfl, pk_mul, nI_add, show (48 : Int32) = nI 48 from rfl, pk_sub (by omega)]; congr 1; omega
      rw [s_141_46, ← r1]
      simp [s_141, aILoad, aRLoad, aLLoad, aIStore, aRStore, aPush, aBin, aBinL, aShL, aUn, aIf, aIc, aGet, aPut, aIald, aBald, aAald, aIast, aBast, aAast, aAlen, aCopy, aCallV, aCallC, aCallI, aRet, aCat, aMax, aMin, aDiv, aRem, aI2l, aL2i, aNul, aSwS, aSw, aInc, aDup, aDup2, aPop1, aIret, aAret, aVret, aLen, aFk, aFT, Value.category, m_sh, m_p, g1, rl, r_in, g3, g4, hI.1, nI_1]
    · rw [show rdN rb L (j + 1) a v = (a, v) by rw [rdN, if_neg hd]]
      refine ⟨_, ?_, hI.app (w := 0) (v := nI v)⟩
      have g3 : ¬ (48 ≤ lk rb L a ∧ lk rb L a ≤ 57) := fun z => by
        unfold lk at z
        by_cases h1 : a < L
        · rw [if_pos h1] at z; exact hd ⟨h1, z⟩
        · rw [if_neg h1] at z; exact absurd z.1 (by decide)
      rw [← stop a v i I hI, s_141_46]
      simp [s_141, aILoad, aRLoad, aLLoad, aIStore, aRStore, aPush, aBin, aBinL, aShL, aUn, aIf, aIc, aGet, aPut, aIald, aBald, aAald, aIast, aBast, aAast, aAlen, aCopy, aCallV, aCallC, aCallI, aRet, aCat, aMax, aMin, aDiv, aRem, aI2l, aL2i, aNul, aSwS, aSw, aInc, aDup, aDup2, aPop1, aIret, aAret, aVret, aLen, aFk, aFT, Value.category, m_sh, m_p, g1, rl, r_in, g3]
theorem r_opens {u a o : Nat} {Y : Nat → Nat → Int32} {st : List (Int32 × Int32)} (h : RS u Y a o st I) (ho : o ≤ 5) : aCall aMt (d + 1) 140 [.ref 113] (HH I x y) = if o = 5 then some (some (.int 0), HH I x y) else some (some (.int 1), HH (aUpd (aUpd I 113 6 (nI (o + 1))) 113 5 (nI (a + 1))) x y) := by
  have e6 := h.2.1
  have e5 : aUpd I 113 6 (nI (o + 1)) 113 5 = nI a := by rw [aUpd_row, upd_ne (by omega)]; exact h.1
  rw [e_140]
  by_cases h5 : o = 5
  · subst h5
    have e6' : I 113 6 = 5 := e6
    simp [s_140, aILoad, aRLoad, aLLoad, aIStore, aRStore, aPush, aBin, aBinL, aShL, aUn, aIf, aIc, aGet, aPut, aIald, aBald, aAald, aIast, aBast, aAast, aAlen, aCopy, aCallV, aCallC, aCallI, aRet, aCat, aMax, aMin, aDiv, aRem, aI2l, aL2i, aNul, aSwS, aSw, aInc, aDup, aDup2, aPop1, aIret, aAret, aVret, aLen, aFk, aFT, Value.category, m_sh, e6']
  · have ne : ¬ nI o = 5 := fun z => h5 ((nI_eq (b := 5) (by omega) (by omega)).mp z)
    simp [s_140, aILoad, aRLoad, aLLoad, aIStore, aRStore, aPush, aBin, aBinL, aShL, aUn, aIf, aIc, aGet, aPut, aIald, aBald, aAald, aIast, aBast, aAast, aAlen, aCopy, aCallV, aCallC, aCallI, aRet, aCat, aMax, aMin, aDiv, aRem, aI2l, aL2i, aNul, aSwS, aSw, aInc, aDup, aDup2, aPop1, aIret, aAret, aVret, aLen, aFk, aFT, Value.category, m_sh, e6, ne, e5, h5, nI_1]
end TEXT2
