/-! TEXTS: what joins -/
section TEXT5
theorem plv_is {c : Int32} : (plv c = 0 ↔ c = 124) ∧ (plv c = 1 ↔ c = 38) ∧ (plv c = 2 ↔ c = 60 ∨ c = 61 ∨ c = 62) ∧ (plv c = 3 ↔ c = 43 ∨ c = 45) ∧ (plv c = 4 ↔ c = 42 ∨ c = 47 ∨ c = 37) := by
  by_cases h1 : c = 124
  · subst h1; decide
  by_cases h2 : c = 38
  · subst h2; decide
  by_cases h3 : c = 60
  · subst h3; decide
  by_cases h4 : c = 61
  · subst h4; decide
  by_cases h5 : c = 62
  · subst h5; decide
  by_cases h6 : c = 43
  · subst h6; decide
  by_cases h7 : c = 45
  · subst h7; decide
  by_cases h8 : c = 42
  · subst h8; decide
  by_cases h9 : c = 47
  · subst h9; decide
  by_cases h10 : c = 37
  · subst h10; decide
  · have e : plv c = 9 := by unfold plv; simp [h1, h2, h3, h4, h5, h6, h7, h8, h9, h10]
    rw [e]; simp [h1, h2, h3, h4, h5, h6, h7, h8, h9, h10]
theorem plI_eq {c : Int32} {l : Nat} (hl : l ≤ 4) : plI c = nI l ↔ plv c = l := by
  have hp : plv c ≤ 9 := by unfold plv; (repeat' split) <;> omega
  unfold plI
  by_cases h : plv c = 9
  · rw [if_pos h]
    exact ⟨fun z => absurd z.symm (nI_m1 (by omega)), fun z => by omega⟩
  · rw [if_neg h]; exact nI_eq (by omega) (by omega)
variable {f L u nm : Nat} {X Y : Nat → Nat → Int32} {rb : Nat → Int32}
noncomputable def rGo (l dd : Nat) (c : Option Value) (H : aH) : aRs := if l = 0 then aGo (aCall aMt dd) none cd_135 1 9 [some (.ref 113)] [] H else if l = 1 then aGo (aCall aMt dd) none cd_136 1 9 [some (.ref 113)] [] H else if l = 3 then aGo (aCall aMt dd) none cd_138 1 9 [some (.ref 113), c] [] H else aGo (aCall aMt dd) none cd_139 1 9 [some (.ref 113), c] [] H
theorem rGo_no {l d a o : Nat} {c : Option Value} {st : List (Int32 × Int32)} {J : Nat → Nat → Int32} {x y : Option Nat} (hY : pY L Y rb) (ha : a ≤ L) (hl : l = 0 ∨ l = 1 ∨ l = 3 ∨ l = 4) (hJ : RS u Y a o st J) (h : ¬ plv (lk rb L a) = l) : rGo l (d + 1) c (HH J x y) = some (some (.int 1), HH J x y) := by
  have rl := r_look (d := d) (x := x) (y := y) hY ha hJ.f
  obtain ⟨p0, p1, p2, p3, p4⟩ := plv_is (c := lk rb L a)
  unfold rGo
  rcases hl with rfl | rfl | rfl | rfl
  · rw [p0] at h
    rw [if_pos rfl, s_135_9]; simp [s_135, aILoad, aRLoad, aLLoad, aIStore, aRStore, aPush, aBin, aBinL, aShL, aUn, aIf, aIc, aGet, aPut, aIald, aBald, aAald, aIast, aBast, aAast, aAlen, aCopy, aCallV, aCallC, aCallI, aRet, aCat, aMax, aMin, aDiv, aRem, aI2l, aL2i, aNul, aSwS, aSw, aInc, aDup, aDup2, aPop1, aIret, aAret, aVret, aLen, aFk, aFT, Value.category, m_sh, rl, h]
  · rw [p1] at h
    rw [if_neg (by decide), if_pos rfl, s_136_9]; simp [s_136, aILoad, aRLoad, aLLoad, aIStore, aRStore, aPush, aBin, aBinL, aShL, aUn, aIf, aIc, aGet, aPut, aIald, aBald, aAald, aIast, aBast, aAast, aAlen, aCopy, aCallV, aCallC, aCallI, aRet, aCat, aMax, aMin, aDiv, aRem, aI2l, aL2i, aNul, aSwS, aSw, aInc, aDup, aDup2, aPop1, aIret, aAret, aVret, aLen, aFk, aFT, Value.category, m_sh, rl, h]
  · rw [p3] at h
    obtain ⟨k1, k2⟩ := not_or.mp h
    rw [if_neg (by decide), if_neg (by decide), if_pos rfl, s_138_9]; simp [s_138, aILoad, aRLoad, aLLoad, aIStore, aRStore, aPush, aBin, aBinL, aShL, aUn, aIf, aIc, aGet, aPut, aIald, aBald, aAald, aIast, aBast, aAast, aAlen, aCopy, aCallV, aCallC, aCallI, aRet, aCat, aMax, aMin, aDiv, aRem, aI2l, aL2i, aNul, aSwS, aSw, aInc, aDup, aDup2, aPop1, aIret, aAret, aVret, aLen, aFk, aFT, Value.category, m_sh, rl, k1, k2]
  · rw [p4] at h
    obtain ⟨k1, k2'⟩ := not_or.mp h
    obtain ⟨k2, k3⟩ := not_or.mp k2'
    rw [if_neg (by decide), if_neg (by decide), if_neg (by decide), s_139_9]; simp [s_139, aILoad, aRLoad, aLLoad, aIStore, aRStore, aPush, aBin, aBinL, aShL, aUn, aIf, aIc, aGet, aPut, aIald, aBald, aAald, aIast, aBast, aAast, aAlen, aCopy, aCallV, aCallC, aCallI, aRet, aCat, aMax, aMin, aDiv, aRem, aI2l, aL2i, aNul, aSwS, aSw, aInc, aDup, aDup2, aPop1, aIret, aAret, aVret, aLen, aFk, aFT, Value.category, m_sh, rl, k1, k2, k3]
theorem rGo_f {l d a o : Nat} {c : Option Value} {st : List (Int32 × Int32)} {J J1 : Nat → Nat → Int32} {x y : Option Nat} (hY : pY L Y rb) (ha : a ≤ L) (hl : l = 0 ∨ l = 1 ∨ l = 3 ∨ l = 4) (hJ : RS u Y a o st J) (h : plv (lk rb L a) = l) (hs : aCall aMt (d + 1) (rM (l + 1)) [.ref 113] (HH (aUpd J 113 5 (nI (a + 1))) x y) = some (some (.int 0), HH J1 x y)) : rGo l (d + 1) c (HH J x y) = some (some (.int 0), HH J1 x y) := by
  have rl := r_look (d := d) (x := x) (y := y) hY ha hJ.f
  obtain ⟨p0, p1, p2, p3, p4⟩ := plv_is (c := lk rb L a)
  unfold rGo
  rcases hl with rfl | rfl | rfl | rfl
  · rw [p0] at h
    rw [h] at rl
    rw [show rM (0 + 1) = 136 from rfl] at hs
    rw [if_pos rfl, s_135_9]; simp [s_135, aILoad, aRLoad, aLLoad, aIStore, aRStore, aPush, aBin, aBinL, aShL, aUn, aIf, aIc, aGet, aPut, aIald, aBald, aAald, aIast, aBast, aAast, aAlen, aCopy, aCallV, aCallC, aCallI, aRet, aCat, aMax, aMin, aDiv, aRem, aI2l, aL2i, aNul, aSwS, aSw, aInc, aDup, aDup2, aPop1, aIret, aAret, aVret, aLen, aFk, aFT, Value.category, m_sh, rl, hJ.1, nI_1, hs]
  · rw [p1] at h
    rw [h] at rl
    rw [show rM (1 + 1) = 137 from rfl] at hs
    rw [if_neg (by decide), if_pos rfl, s_136_9]; simp [s_136, aILoad, aRLoad, aLLoad, aIStore, aRStore, aPush, aBin, aBinL, aShL, aUn, aIf, aIc, aGet, aPut, aIald, aBald, aAald, aIast, aBast, aAast, aAlen, aCopy, aCallV, aCallC, aCallI, aRet, aCat, aMax, aMin, aDiv, aRem, aI2l, aL2i, aNul, aSwS, aSw, aInc, aDup, aDup2, aPop1, aIret, aAret, aVret, aLen, aFk, aFT, Value.category, m_sh, rl, hJ.1, nI_1, hs]
  · rw [p3] at h
    rw [show rM (3 + 1) = 139 from rfl] at hs
    rw [if_neg (by decide), if_neg (by decide), if_pos rfl, s_138_9]
    rcases h with h | h <;> (rw [h] at rl; simp [s_138, aILoad, aRLoad, aLLoad, aIStore, aRStore, aPush, aBin, aBinL, aShL, aUn, aIf, aIc, aGet, aPut, aIald, aBald, aAald, aIast, aBast, aAast, aAlen, aCopy, aCallV, aCallC, aCallI, aRet, aCat, aMax, aMin, aDiv, aRem, aI2l, aL2i, aNul, aSwS, aSw, aInc, aDup, aDup2, aPop1, aIret, aAret, aVret, aLen, aFk, aFT, Value.category, m_sh, rl, hJ.1, nI_1, hs])
  · rw [p4] at h
    rw [show rM (4 + 1) = 141 from rfl] at hs
    rw [if_neg (by decide), if_neg (by decide), if_neg (by decide), s_139_9]
    rcases h with h | h | h <;> (rw [h] at rl; simp [s_139, aILoad, aRLoad, aLLoad, aIStore, aRStore, aPush, aBin, aBinL, aShL, aUn, aIf, aIc, aGet, aPut, aIald, aBald, aAald, aIast, aBast, aAast, aAlen, aCopy, aCallV, aCallC, aCallI, aRet, aCat, aMax, aMin, aDiv, aRem, aI2l, aL2i, aNul, aSwS, aSw, aInc, aDup, aDup2, aPop1, aIret, aAret, aVret, aLen, aFk, aFT, Value.category, m_sh, rl, hJ.1, nI_1, hs])
theorem rGo_t {l d a o : Nat} {c : Option Value} {st : List (Int32 × Int32)} {J J1 J2 : Nat → Nat → Int32} {x y : Option Nat} (hY : pY L Y rb) (ha : a ≤ L) (hl : l = 0 ∨ l = 1 ∨ l = 3 ∨ l = 4) (hJ : RS u Y a o st J) (h : plv (lk rb L a) = l) (hs : aCall aMt (d + 1) (rM (l + 1)) [.ref 113] (HH (aUpd J 113 5 (nI (a + 1))) x y) = some (some (.int 1), HH J1 x y)) (ht : aCall aMt (d + 1) 134 [.ref 113, .int 3, .int (lk rb L a)] (HH J1 x y) = some (none, HH J2 x y)) : ∃ c', rGo l (d + 1) c (HH J x y) = rGo l (d + 1) c' (HH J2 x y) := by
  have rl := r_look (d := d) (x := x) (y := y) hY ha hJ.f
  obtain ⟨p0, p1, p2, p3, p4⟩ := plv_is (c := lk rb L a)
  unfold rGo
  refine ⟨some (.int (lk rb L a)), ?_⟩
  rcases hl with rfl | rfl | rfl | rfl
  · rw [p0] at h
    rw [h] at rl ht
    rw [show rM (0 + 1) = 136 from rfl] at hs
    rw [if_pos rfl, if_pos rfl]
    conv => lhs; rw [s_135_9]
    simp [s_135, aILoad, aRLoad, aLLoad, aIStore, aRStore, aPush, aBin, aBinL, aShL, aUn, aIf, aIc, aGet, aPut, aIald, aBald, aAald, aIast, aBast, aAast, aAlen, aCopy, aCallV, aCallC, aCallI, aRet, aCat, aMax, aMin, aDiv, aRem, aI2l, aL2i, aNul, aSwS, aSw, aInc, aDup, aDup2, aPop1, aIret, aAret, aVret, aLen, aFk, aFT, Value.category, m_sh, rl, hJ.1, nI_1, hs, ht]
  · rw [p1] at h
    rw [h] at rl ht
    rw [show rM (1 + 1) = 137 from rfl] at hs
    rw [if_neg (by decide), if_pos rfl, if_neg (by decide), if_pos rfl]
    conv => lhs; rw [s_136_9]
    simp [s_136, aILoad, aRLoad, aLLoad, aIStore, aRStore, aPush, aBin, aBinL, aShL, aUn, aIf, aIc, aGet, aPut, aIald, aBald, aAald, aIast, aBast, aAast, aAlen, aCopy, aCallV, aCallC, aCallI, aRet, aCat, aMax, aMin, aDiv, aRem, aI2l, aL2i, aNul, aSwS, aSw, aInc, aDup, aDup2, aPop1, aIret, aAret, aVret, aLen, aFk, aFT, Value.category, m_sh, rl, hJ.1, nI_1, hs, ht]
  · rw [p3] at h
    rw [show rM (3 + 1) = 139 from rfl] at hs
    rw [if_neg (by decide), if_neg (by decide), if_pos rfl, if_neg (by decide), if_neg (by decide), if_pos rfl]
    conv => lhs; rw [s_138_9]
    rcases h with h | h <;> (rw [h] at rl ht ⊢; simp [s_138, aILoad, aRLoad, aLLoad, aIStore, aRStore, aPush, aBin, aBinL, aShL, aUn, aIf, aIc, aGet, aPut, aIald, aBald, aAald, aIast, aBast, aAast, aAlen, aCopy, aCallV, aCallC, aCallI, aRet, aCat, aMax, aMin, aDiv, aRem, aI2l, aL2i, aNul, aSwS, aSw, aInc, aDup, aDup2, aPop1, aIret, aAret, aVret, aLen, aFk, aFT, Value.category, m_sh, rl, hJ.1, nI_1, hs, ht])
  · rw [p4] at h
    rw [show rM (4 + 1) = 141 from rfl] at hs
    rw [if_neg (by decide), if_neg (by decide), if_neg (by decide), if_neg (by decide), if_neg (by decide), if_neg (by decide)]
    conv => lhs; rw [s_139_9]
    rcases h with h | h | h <;> (rw [h] at rl ht ⊢; simp [s_139, aILoad, aRLoad, aLLoad, aIStore, aRStore, aPush, aBin, aBinL, aShL, aUn, aIf, aIc, aGet, aPut, aIald, aBald, aAald, aIast, aBast, aAast, aAlen, aCopy, aCallV, aCallC, aCallI, aRet, aCat, aMax, aMin, aDiv, aRem, aI2l, aL2i, aNul, aSwS, aSw, aInc, aDup, aDup2, aPop1, aIret, aAret, aVret, aLen, aFk, aFT, Value.category, m_sh, rl, hJ.1, nI_1, hs, ht])
/-- the class at the head of its loop -/
theorem kGo_no {l d a o : Nat} {c : Option Value} {st : List (Int32 × Int32)} {I : Nat → Nat → Int32} (hf : isF f) (hX : pX f L X rb) (ha : a ≤ L) (hl : l ≤ 4) (hI : CS u L X a st I) (h : ¬ plv (lk rb L a) = l) : aGo (aCall aMt (d + 1)) none cd_39 1 24 [some (.ref 94), some (.int (nI l)), some (.int (nI o)), c] [] (HH I (some (f + 11)) (some nm)) = some (some (.int 1), HH I (some (f + 11)) (some nm)) := by
  have hff : f ≤ 63 := by rcases hf with rfl | rfl | rfl <;> omega
  have hL := hX.1
  rw [s_39_24]
  by_cases c1 : a < L
  · have g2 : ¬ nI L ≤ nI a := nI_ge c1 (by omega)
    have hi11 : I (f + 11) a = X (f + 11) a := by rw [hI.2.2.2.2 (f + 11) (by omega) (by omega) (by omega) (by omega)]
    have hn : ¬ plI (X (f + 11) a) = nI l := fun z => h (by
      unfold lk; rw [if_pos c1, ← bRel_lv (hX.2 a c1)]; exact (plI_eq hl).mp z)
    simp [s_39, aILoad, aRLoad, aLLoad, aIStore, aRStore, aPush, aBin, aBinL, aShL, aUn, aIf, aIc, aGet, aPut, aIald, aBald, aAald, aIast, aBast, aAast, aAlen, aCopy, aCallV, aCallC, aCallI, aRet, aCat, aMax, aMin, aDiv, aRem, aI2l, aL2i, aNul, aSwS, aSw, aInc, aDup, aDup2, aPop1, aIret, aAret, aVret, aLen, aFk, aFT, Value.category, c_sh, c_q, f_sh hf, hI.1, hI.2.1, g2, hi11, k_levelOf, hn, toNat_nI (show a < 2 ^ 31 by omega), nI_lt0 (show a < 2 ^ 31 by omega), show ¬ 60 ≤ a by omega]
  · have g2 : nI L ≤ nI a := nI_le (by omega) (by omega)
    simp [s_39, aILoad, aRLoad, aLLoad, aIStore, aRStore, aPush, aBin, aBinL, aShL, aUn, aIf, aIc, aGet, aPut, aIald, aBald, aAald, aIast, aBast, aAast, aAlen, aCopy, aCallV, aCallC, aCallI, aRet, aCat, aMax, aMin, aDiv, aRem, aI2l, aL2i, aNul, aSwS, aSw, aInc, aDup, aDup2, aPop1, aIret, aAret, aVret, aLen, aFk, aFT, Value.category, c_sh, c_q, hI.1, hI.2.1, g2]
theorem kGo_f {l d a o : Nat} {c : Option Value} {st : List (Int32 × Int32)} {I I1 : Nat → Nat → Int32} (hf : isF f) (hX : pX f L X rb) (ha : a < L) (hl : l ≤ 4) (hI : CS u L X a st I) (h : plv (lk rb L a) = l) (hs : aCall aMt (d + 1) 39 [.ref 94, .int (nI (l + 1)), .int (nI o)] (HH (aUpd I 94 3 (nI (a + 1))) (some (f + 11)) (some nm)) = some (some (.int 0), HH I1 (some (f + 11)) (some nm))) : aGo (aCall aMt (d + 1)) none cd_39 1 24 [some (.ref 94), some (.int (nI l)), some (.int (nI o)), c] [] (HH I (some (f + 11)) (some nm)) = some (some (.int 0), HH I1 (some (f + 11)) (some nm)) := by
  have hff : f ≤ 63 := by rcases hf with rfl | rfl | rfl <;> omega
  have hL := hX.1
  have g2 : ¬ nI L ≤ nI a := nI_ge ha (by omega)
  have hi11 : I (f + 11) a = X (f + 11) a := by rw [hI.2.2.2.2 (f + 11) (by omega) (by omega) (by omega) (by omega)]
  have hn : plI (X (f + 11) a) = nI l := by
    unfold lk at h; rw [if_pos ha, ← bRel_lv (hX.2 a ha)] at h; exact (plI_eq hl).mpr h
  rw [s_39_24]
  simp [s_39, aILoad, aRLoad, aLLoad, aIStore, aRStore, aPush, aBin, aBinL, aShL, aUn, aIf, aIc, aGet, aPut, aIald, aBald, aAald, aIast, aBast, aAast, aAlen, aCopy, aCallV, aCallC, aCallI, aRet, aCat, aMax, aMin, aDiv, aRem, aI2l, aL2i, aNul, aSwS, aSw, aInc, aDup, aDup2, aPop1, aIret, aAret, aVret, aLen, aFk, aFT, Value.category, c_sh, c_q, f_sh hf, hI.1, hI.2.1, g2, hi11, k_levelOf, hn, toNat_nI (show a < 2 ^ 31 by omega), nI_lt0 (show a < 2 ^ 31 by omega), show ¬ 60 ≤ a by omega, nI_1, hs]
theorem kGo_t {l d a o : Nat} {c : Option Value} {st : List (Int32 × Int32)} {I I1 I2 : Nat → Nat → Int32} (hf : isF f) (hX : pX f L X rb) (ha : a < L) (hl : l ≤ 4) (hI : CS u L X a st I) (h : plv (lk rb L a) = l) (hs : aCall aMt (d + 1) 39 [.ref 94, .int (nI (l + 1)), .int (nI o)] (HH (aUpd I 94 3 (nI (a + 1))) (some (f + 11)) (some nm)) = some (some (.int 1), HH I1 (some (f + 11)) (some nm))) (ht : aCall aMt (d + 1) 23 [.ref 95, .int (lk rb L a), .int 0] (HH I1 (some (f + 11)) (some nm)) = some (none, HH I2 (some (f + 11)) (some nm))) :
    aGo (aCall aMt (d + 1)) none cd_39 1 24 [some (.ref 94), some (.int (nI l)), some (.int (nI o)), c] [] (HH I (some (f + 11)) (some nm)) = if l = 2 then some (some (.int 1), HH I2 (some (f + 11)) (some nm)) else aGo (aCall aMt (d + 1)) none cd_39 1 24 [some (.ref 94), some (.int (nI l)), some (.int (nI o)), some (.int (lk rb L a))] [] (HH I2 (some (f + 11)) (some nm)) := by
  have hff : f ≤ 63 := by rcases hf with rfl | rfl | rfl <;> omega
  have hL := hX.1
  have g2 : ¬ nI L ≤ nI a := nI_ge ha (by omega)
  have hi11 : I (f + 11) a = X (f + 11) a := by rw [hI.2.2.2.2 (f + 11) (by omega) (by omega) (by omega) (by omega)]
  have el : lk rb L a = rb a := if_pos ha
  have h9 : ¬ plv (rb a) = 9 := by rw [← el, h]; omega
  have hsg : X (f + 11) a = lk rb L a := by rw [el]; exact bRel_sg (hX.2 a ha) h9
  have hn : plI (lk rb L a) = nI l := (plI_eq hl).mpr h
  rw [hsg] at hi11
  generalize lk rb L a = z at *
  by_cases h2 : l = 2
  · subst h2
    rw [if_pos rfl]
    rw [show nI (2 + 1) = (3 : Int32) from rfl] at hs
    rw [show nI 2 = (2 : Int32) from rfl] at hn
    rw [s_39_24]
    simp [s_39, aILoad, aRLoad, aLLoad, aIStore, aRStore, aPush, aBin, aBinL, aShL, aUn, aIf, aIc, aGet, aPut, aIald, aBald, aAald, aIast, aBast, aAast, aAlen, aCopy, aCallV, aCallC, aCallI, aRet, aCat, aMax, aMin, aDiv, aRem, aI2l, aL2i, aNul, aSwS, aSw, aInc, aDup, aDup2, aPop1, aIret, aAret, aVret, aLen, aFk, aFT, Value.category, c_sh, c_q, f_sh hf, hI.1, hI.2.1, g2, hi11, k_levelOf, hn, toNat_nI (show a < 2 ^ 31 by omega), nI_lt0 (show a < 2 ^ 31 by omega), show ¬ 60 ≤ a by omega, nI_1, hs, ht, show nI 2 = (2 : Int32) from rfl]
  · have n2 : ¬ nI l = 2 := fun q => h2 ((nI_eq (b := 2) (by omega) (by omega)).mp q)
    rw [if_neg h2]
    conv => lhs; rw [s_39_24]
    simp [s_39, aILoad, aRLoad, aLLoad, aIStore, aRStore, aPush, aBin, aBinL, aShL, aUn, aIf, aIc, aGet, aPut, aIald, aBald, aAald, aIast, aBast, aAast, aAlen, aCopy, aCallV, aCallC, aCallI, aRet, aCat, aMax, aMin, aDiv, aRem, aI2l, aL2i, aNul, aSwS, aSw, aInc, aDup, aDup2, aPop1, aIret, aAret, aVret, aLen, aFk, aFT, Value.category, c_sh, c_q, f_sh hf, hI.1, hI.2.1, g2, hi11, k_levelOf, hn, toNat_nI (show a < 2 ^ 31 by omega), nI_lt0 (show a < 2 ^ 31 by omega), show ¬ 60 ≤ a by omega, nI_1, hs, ht, n2]
end TEXT5
