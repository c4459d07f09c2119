/-! the calls in pairs: as, feel -/
def isK (k w : Nat) : Bool := w == 0 || w == k || (k == 4 && w == 1) || (k == 5 && w == 2)
theorem st_sh : SH[1000]? = none ∧ SH[1001]? = none ∧ SH[1002]? = none := ⟨rfl, rfl, rfl⟩
section PAIR4
variable {d : Nat} {I : Nat → Nat → Int32} {x y : Option Nat}
theorem k_isOf {a k w : Nat} (ha : SH[a]? = some (2, 6)) (hk : k ≤ 6) (hw : w ≤ 6) (h1 : I a 1 = nI k) : aCall aMt (d + 2) 32 [.ref a, .int (nI w)] (HH I x y) = some (some (.int (if isK k w then 1 else 0)), HH I x y) := by
  have hk' : k = 0 ∨ k = 1 ∨ k = 2 ∨ k = 3 ∨ k = 4 ∨ k = 5 ∨ k = 6 := by omega
  have hw' : w = 0 ∨ w = 1 ∨ w = 2 ∨ w = 3 ∨ w = 4 ∨ w = 5 ∨ w = 6 := by omega
  rw [e_32]
  rcases hk' with rfl | rfl | rfl | rfl | rfl | rfl | rfl <;> rcases hw' with rfl | rfl | rfl | rfl | rfl | rfl | rfl <;>
    simp [s_32, s_32_7, aILoad, aRLoad, aLLoad, aIStore, aRStore, aPush, aBin, aBinL, aShL, aUn, aIf, aIc, aGet, aPut, aIald, aBald, aAald, aIast, aBast, aAast, aAlen, aCopy, aCallV, aCallC, aCallI, aRet, aCat, aMax, aMin, aDiv, aRem, aI2l, aL2i, aNul, aSwS, aSw, aInc, aDup, aDup2, aPop1, aIret, aAret, aVret, aLen, aFk, aFT, Value.category, ha, h1, k_isIn, isK, st_sh, aSt, aKA, nI_lit0, nI_lit1, show nI 2 = (2 : Int32) from rfl, show nI 3 = (3 : Int32) from rfl, show nI 4 = (4 : Int32) from rfl, show nI 5 = (5 : Int32) from rfl, show nI 6 = (6 : Int32) from rfl]
theorem pair_as (v w : Int32) : Pair 67 168 [.int v, .int w] := by
  intro d I x y h
  obtain ⟨f, P, T, h1, hf, hA⟩ := h.f
  have hP := hA.1.1
  have e7 := hA.1.fi.2.2.1
  by_cases hp : 0 ≤ v ∧ v ≤ nI P - 1
  · obtain ⟨p, hpP, rfl⟩ := (isIx (by omega)).mp hp
    have pa := k_personAt (d := d + 17) (x := x) (y := y) hf hA.1 hpP
    have pe := hA.1.pe hpP
    have s1 := f_pe hf (show p < 8 by omega)
    by_cases hw : 0 ≤ w ∧ w ≤ 6
    · obtain ⟨q, _, hq, rfl⟩ := (isIn' (v := w) (a := 0) (b := 6) (by omega) (by omega)).mp hw
      obtain ⟨k, hk, hkk⟩ := (hA.2.2.1 p hpP).1
      have ko := k_isOf (d := d + 17) (x := x) (y := y) (I := I) s1 hk hq (pe.2.1.trans hkk)
      have hk' : k = 0 ∨ k = 1 ∨ k = 2 ∨ k = 3 ∨ k = 4 ∨ k = 5 ∨ k = 6 := by omega
      have hq' : q = 0 ∨ q = 1 ∨ q = 2 ∨ q = 3 ∨ q = 4 ∨ q = 5 ∨ q = 6 := by omega
      by_cases hs : isK k q
      · simp only [hs, if_true] at ko
        refine Pair.id (v := I 114 (11 + 5 * p)) h ?_ ?_
        · rw [e_67]; simp [s_67, aILoad, aRLoad, aLLoad, aIStore, aRStore, aPush, aBin, aBinL, aShL, aUn, aIf, aIc, aGet, aPut, aIald, aBald, aAald, aIast, aBast, aAast, aAlen, aCopy, aCallV, aCallC, aCallI, aRet, aCat, aMax, aMin, aDiv, aRem, aI2l, aL2i, aNul, aSwS, aSw, aInc, aDup, aDup2, aPop1, aIret, aAret, aVret, aLen, aFk, aFT, Value.category, c_sh, c_f h1, f_sh hf, pa, pe, s1, k_isIn, hw, ko]
        · have a1 : 10 + 5 * p + 1 = 11 + 5 * p := by omega
          rw [e_168]
          rcases hk' with rfl | rfl | rfl | rfl | rfl | rfl | rfl <;> rcases hq' with rfl | rfl | rfl | rfl | rfl | rfl | rfl <;>
            first
            | (exfalso; revert hs; decide)
            | simp [s_168, s_168_31, aILoad, aRLoad, aLLoad, aIStore, aRStore, aPush, aBin, aBinL, aShL, aUn, aIf, aIc, aGet, aPut, aIald, aBald, aAald, aIast, aBast, aAast, aAlen, aCopy, aCallV, aCallC, aCallI, aRet, aCat, aMax, aMin, aDiv, aRem, aI2l, aL2i, aNul, aSwS, aSw, aInc, aDup, aDup2, aPop1, aIret, aAret, aVret, aLen, aFk, aFT, Value.category, m_sh, m_p, r_isPerson, e7, hp, r_in, r_its (show p < 8 by omega), hkk, r_above, a1, nI_lit0, nI_lit1, show nI 2 = (2 : Int32) from rfl, show nI 3 = (3 : Int32) from rfl, show nI 4 = (4 : Int32) from rfl, show nI 5 = (5 : Int32) from rfl, show nI 6 = (6 : Int32) from rfl]
      · simp only [hs, if_false] at ko
        refine Pair.ref 5 (-1000000005) h ?_ (fun I' hI => ?_)
        · rw [e_67]; simp [s_67, aILoad, aRLoad, aLLoad, aIStore, aRStore, aPush, aBin, aBinL, aShL, aUn, aIf, aIc, aGet, aPut, aIald, aBald, aAald, aIast, aBast, aAast, aAlen, aCopy, aCallV, aCallC, aCallI, aRet, aCat, aMax, aMin, aDiv, aRem, aI2l, aL2i, aNul, aSwS, aSw, aInc, aDup, aDup2, aPop1, aIret, aAret, aVret, aLen, aFk, aFT, Value.category, c_sh, c_f h1, f_sh hf, pa, pe, s1, k_isIn, hw, ko, rf_5]
        · have e7' : I' 114 7 = nI P := by rw [hI 114 (by decide)]; exact e7
          have hkk' : I' 114 (10 + 5 * p) = nI k := by rw [hI 114 (by decide)]; exact hkk
          rw [e_168]
          rcases hk' with rfl | rfl | rfl | rfl | rfl | rfl | rfl <;> rcases hq' with rfl | rfl | rfl | rfl | rfl | rfl | rfl <;>
            first
            | (exfalso; revert hs; decide)
            | simp [s_168, s_168_31, aILoad, aRLoad, aLLoad, aIStore, aRStore, aPush, aBin, aBinL, aShL, aUn, aIf, aIc, aGet, aPut, aIald, aBald, aAald, aIast, aBast, aAast, aAlen, aCopy, aCallV, aCallC, aCallI, aRet, aCat, aMax, aMin, aDiv, aRem, aI2l, aL2i, aNul, aSwS, aSw, aInc, aDup, aDup2, aPop1, aIret, aAret, aVret, aLen, aFk, aFT, Value.category, m_sh, m_p, r_isPerson, e7', hp, r_in, r_its (show p < 8 by omega), hkk', r_above, nI_lit0, nI_lit1, show nI 2 = (2 : Int32) from rfl, show nI 3 = (3 : Int32) from rfl, show nI 4 = (4 : Int32) from rfl, show nI 5 = (5 : Int32) from rfl, show nI 6 = (6 : Int32) from rfl, re_5]
    · refine Pair.ref 1 (-1000000001) h ?_ (fun I' hI => ?_)
      · rw [e_67]; simp [s_67, aILoad, aRLoad, aLLoad, aIStore, aRStore, aPush, aBin, aBinL, aShL, aUn, aIf, aIc, aGet, aPut, aIald, aBald, aAald, aIast, aBast, aAast, aAlen, aCopy, aCallV, aCallC, aCallI, aRet, aCat, aMax, aMin, aDiv, aRem, aI2l, aL2i, aNul, aSwS, aSw, aInc, aDup, aDup2, aPop1, aIret, aAret, aVret, aLen, aFk, aFT, Value.category, c_sh, c_f h1, f_sh hf, pa, pe, s1, k_isIn, hw, rf_1]
      · have e7' : I' 114 7 = nI P := by rw [hI 114 (by decide)]; exact e7
        rw [e_168]; simp [s_168, aILoad, aRLoad, aLLoad, aIStore, aRStore, aPush, aBin, aBinL, aShL, aUn, aIf, aIc, aGet, aPut, aIald, aBald, aAald, aIast, aBast, aAast, aAlen, aCopy, aCallV, aCallC, aCallI, aRet, aCat, aMax, aMin, aDiv, aRem, aI2l, aL2i, aNul, aSwS, aSw, aInc, aDup, aDup2, aPop1, aIret, aAret, aVret, aLen, aFk, aFT, Value.category, m_sh, m_p, r_isPerson, e7', hp, r_in, hw, re_1]
  · have pa := k_personNo (d := d + 17) (x := x) (y := y) hf hA.1 hp
    refine Pair.ref 1 (-1000000001) h ?_ (fun I' hI => ?_)
    · rw [e_67]; simp [s_67, aILoad, aRLoad, aLLoad, aIStore, aRStore, aPush, aBin, aBinL, aShL, aUn, aIf, aIc, aGet, aPut, aIald, aBald, aAald, aIast, aBast, aAast, aAlen, aCopy, aCallV, aCallC, aCallI, aRet, aCat, aMax, aMin, aDiv, aRem, aI2l, aL2i, aNul, aSwS, aSw, aInc, aDup, aDup2, aPop1, aIret, aAret, aVret, aLen, aFk, aFT, Value.category, c_sh, c_f h1, f_sh hf, pa, rf_1]
    · have e7' : I' 114 7 = nI P := by rw [hI 114 (by decide)]; exact e7
      rw [e_168]; simp [s_168, aILoad, aRLoad, aLLoad, aIStore, aRStore, aPush, aBin, aBinL, aShL, aUn, aIf, aIc, aGet, aPut, aIald, aBald, aAald, aIast, aBast, aAast, aAlen, aCopy, aCallV, aCallC, aCallI, aRet, aCat, aMax, aMin, aDiv, aRem, aI2l, aL2i, aNul, aSwS, aSw, aInc, aDup, aDup2, aPop1, aIret, aAret, aVret, aLen, aFk, aFT, Value.category, m_sh, m_p, r_isPerson, e7', hp, re_1]
theorem pair_feel (v w z : Int32) : Pair 68 169 [.int v, .int w, .int z] := by
  intro d I x y h
  obtain ⟨f, P, T, h1, hf, hA⟩ := h.f
  have hP := hA.1.1
  have e7 := hA.1.fi.2.2.1
  by_cases hp : 0 ≤ v ∧ v ≤ nI P - 1
  · obtain ⟨p, hpP, rfl⟩ := (isIx (by omega)).mp hp
    have pa := k_personAt (d := d + 17) (x := x) (y := y) hf hA.1 hpP
    have pe := hA.1.pe hpP
    have s1 := f_pe hf (show p < 8 by omega)
    have e114 : ∀ j a, aUpd I (f + 13 + p) j a 114 = I 114 := fun j a => aUpd_ne (by omega)
    have ix2 : (10 : Int32) + 5 * nI p + 2 = nI (12 + 5 * p) := by
      rw [ix_p (p := p) (w := 2) (by omega) (by decide) (by decide)]; congr 1; rw [show (2 : Int32).toNatClampNeg = 2 from rfl]; omega
    have ix0 : nI (12 + 5 * p) + 0 = nI (12 + 5 * p) := by rw [← nI_lit0, nI_add]; rfl
    have ix1 : nI (12 + 5 * p) + 1 = nI (13 + 5 * p) := by rw [nI_1]; congr 1; omega
    have ix3 : nI (12 + 5 * p) + 2 = nI (14 + 5 * p) := by rw [nI_2]; congr 1; omega
    by_cases hw : 0 ≤ w ∧ w ≤ 2
    · rcases in_02 hw with rfl | rfl | rfl
      · by_cases hz : 0 ≤ z ∧ z ≤ 99
        · have kc : aCall aMt (d + 19) 109 [.ref 0, .ref (f + 13 + p), .int 0, .int z] (HH I x y) = some (some (.int 1), HH I x y) := by
            rw [e_109]; simp [s_109, aILoad, aRLoad, aLLoad, aIStore, aRStore, aPush, aBin, aBinL, aShL, aUn, aIf, aIc, aGet, aPut, aIald, aBald, aAald, aIast, aBast, aAast, aAlen, aCopy, aCallV, aCallC, aCallI, aRet, aCat, aMax, aMin, aDiv, aRem, aI2l, aL2i, aNul, aSwS, aSw, aInc, aDup, aDup2, aPop1, aIret, aAret, aVret, aLen, aFk, aFT, Value.category, k_isIn, hz]
          refine Pair.now (v := I 114 (12 + 5 * p)) (I1 := aUpd I (f + 13 + p) 3 z) (I2 := aUpd (aUpd I (f + 13 + p) 3 z) 114 (12 + 5 * p) z) (P := P) (T := T) h h1 ?_ ?_ (KG.rf.upd (by omega) (by omega)) (RG.rf.upd) ?_
          · rw [e_68]; simp [s_68, aILoad, aRLoad, aLLoad, aIStore, aRStore, aPush, aBin, aBinL, aShL, aUn, aIf, aIc, aGet, aPut, aIald, aBald, aAald, aIast, aBast, aAast, aAlen, aCopy, aCallV, aCallC, aCallI, aRet, aCat, aMax, aMin, aDiv, aRem, aI2l, aL2i, aNul, aSwS, aSw, aInc, aDup, aDup2, aPop1, aIret, aAret, aVret, aLen, aFk, aFT, Value.category, c_sh, c_f h1, f_sh hf, pa, pe, s1, kc]
          · rw [e_169]; simp [s_169, aILoad, aRLoad, aLLoad, aIStore, aRStore, aPush, aBin, aBinL, aShL, aUn, aIf, aIc, aGet, aPut, aIald, aBald, aAald, aIast, aBast, aAast, aAlen, aCopy, aCallV, aCallC, aCallI, aRet, aCat, aMax, aMin, aDiv, aRem, aI2l, aL2i, aNul, aSwS, aSw, aInc, aDup, aDup2, aPop1, aIret, aAret, aVret, aLen, aFk, aFT, Value.category, m_sh, m_p, r_isPerson, e114, e7, hp, r_in, hz, ix2, ix0, r_change (show 12 + 5 * p < 454 by omega)]
          · simp only [aUpd_row, aUpd_ne (show 114 ≠ f + 13 + p by omega)]
            exact hA.setP (j := 2) hpP (by omega) (by omega) (fun z => by omega) (fun _ => (isIn' (a := 0) (b := 99) (by omega) (by omega)).mp hz |>.elim fun n q => ⟨n, q.2.1, q.2.2⟩) (fun z => by omega)
        · have kc : aCall aMt (d + 19) 109 [.ref 0, .ref (f + 13 + p), .int 0, .int z] (HH I x y) = some (some (.int 0), HH I x y) := by
            rw [e_109]; simp [s_109, aILoad, aRLoad, aLLoad, aIStore, aRStore, aPush, aBin, aBinL, aShL, aUn, aIf, aIc, aGet, aPut, aIald, aBald, aAald, aIast, aBast, aAast, aAlen, aCopy, aCallV, aCallC, aCallI, aRet, aCat, aMax, aMin, aDiv, aRem, aI2l, aL2i, aNul, aSwS, aSw, aInc, aDup, aDup2, aPop1, aIret, aAret, aVret, aLen, aFk, aFT, Value.category, k_isIn, hz]
          refine Pair.ref 1 (-1000000001) h ?_ (fun I' hI => ?_)
          · rw [e_68]; simp [s_68, aILoad, aRLoad, aLLoad, aIStore, aRStore, aPush, aBin, aBinL, aShL, aUn, aIf, aIc, aGet, aPut, aIald, aBald, aAald, aIast, aBast, aAast, aAlen, aCopy, aCallV, aCallC, aCallI, aRet, aCat, aMax, aMin, aDiv, aRem, aI2l, aL2i, aNul, aSwS, aSw, aInc, aDup, aDup2, aPop1, aIret, aAret, aVret, aLen, aFk, aFT, Value.category, c_sh, c_f h1, f_sh hf, pa, pe, s1, kc, rf_1]
          · have e7' : I' 114 7 = nI P := by rw [hI 114 (by decide)]; exact e7
            rw [e_169]; simp [s_169, aILoad, aRLoad, aLLoad, aIStore, aRStore, aPush, aBin, aBinL, aShL, aUn, aIf, aIc, aGet, aPut, aIald, aBald, aAald, aIast, aBast, aAast, aAlen, aCopy, aCallV, aCallC, aCallI, aRet, aCat, aMax, aMin, aDiv, aRem, aI2l, aL2i, aNul, aSwS, aSw, aInc, aDup, aDup2, aPop1, aIret, aAret, aVret, aLen, aFk, aFT, Value.category, m_sh, m_p, r_isPerson, e7', hp, r_in, hz, re_1]
      · by_cases hz : 0 ≤ z ∧ z ≤ 9
        · have kc : aCall aMt (d + 19) 109 [.ref 0, .ref (f + 13 + p), .int 1, .int z] (HH I x y) = some (some (.int 1), HH I x y) := by
            rw [e_109]; simp [s_109, aILoad, aRLoad, aLLoad, aIStore, aRStore, aPush, aBin, aBinL, aShL, aUn, aIf, aIc, aGet, aPut, aIald, aBald, aAald, aIast, aBast, aAast, aAlen, aCopy, aCallV, aCallC, aCallI, aRet, aCat, aMax, aMin, aDiv, aRem, aI2l, aL2i, aNul, aSwS, aSw, aInc, aDup, aDup2, aPop1, aIret, aAret, aVret, aLen, aFk, aFT, Value.category, k_isIn, hz]
          refine Pair.now (v := I 114 (13 + 5 * p)) (I1 := aUpd I (f + 13 + p) 4 z) (I2 := aUpd (aUpd I (f + 13 + p) 4 z) 114 (13 + 5 * p) z) (P := P) (T := T) h h1 ?_ ?_ (KG.rf.upd (by omega) (by omega)) (RG.rf.upd) ?_
          · rw [e_68]; simp [s_68, aILoad, aRLoad, aLLoad, aIStore, aRStore, aPush, aBin, aBinL, aShL, aUn, aIf, aIc, aGet, aPut, aIald, aBald, aAald, aIast, aBast, aAast, aAlen, aCopy, aCallV, aCallC, aCallI, aRet, aCat, aMax, aMin, aDiv, aRem, aI2l, aL2i, aNul, aSwS, aSw, aInc, aDup, aDup2, aPop1, aIret, aAret, aVret, aLen, aFk, aFT, Value.category, c_sh, c_f h1, f_sh hf, pa, pe, s1, kc]
          · rw [e_169]; simp [s_169, aILoad, aRLoad, aLLoad, aIStore, aRStore, aPush, aBin, aBinL, aShL, aUn, aIf, aIc, aGet, aPut, aIald, aBald, aAald, aIast, aBast, aAast, aAlen, aCopy, aCallV, aCallC, aCallI, aRet, aCat, aMax, aMin, aDiv, aRem, aI2l, aL2i, aNul, aSwS, aSw, aInc, aDup, aDup2, aPop1, aIret, aAret, aVret, aLen, aFk, aFT, Value.category, m_sh, m_p, r_isPerson, e114, e7, hp, r_in, hz, ix2, ix1, r_change (show 13 + 5 * p < 454 by omega)]
          · simp only [aUpd_row, aUpd_ne (show 114 ≠ f + 13 + p by omega)]
            exact hA.setP (j := 3) hpP (by omega) (by omega) (fun z => by omega) (fun z => by omega) (fun _ => (isIn' (a := 0) (b := 9) (by omega) (by omega)).mp hz |>.elim fun n q => ⟨n, q.2.1, q.2.2⟩)
        · have kc : aCall aMt (d + 19) 109 [.ref 0, .ref (f + 13 + p), .int 1, .int z] (HH I x y) = some (some (.int 0), HH I x y) := by
            rw [e_109]; simp [s_109, aILoad, aRLoad, aLLoad, aIStore, aRStore, aPush, aBin, aBinL, aShL, aUn, aIf, aIc, aGet, aPut, aIald, aBald, aAald, aIast, aBast, aAast, aAlen, aCopy, aCallV, aCallC, aCallI, aRet, aCat, aMax, aMin, aDiv, aRem, aI2l, aL2i, aNul, aSwS, aSw, aInc, aDup, aDup2, aPop1, aIret, aAret, aVret, aLen, aFk, aFT, Value.category, k_isIn, hz]
          refine Pair.ref 1 (-1000000001) h ?_ (fun I' hI => ?_)
          · rw [e_68]; simp [s_68, aILoad, aRLoad, aLLoad, aIStore, aRStore, aPush, aBin, aBinL, aShL, aUn, aIf, aIc, aGet, aPut, aIald, aBald, aAald, aIast, aBast, aAast, aAlen, aCopy, aCallV, aCallC, aCallI, aRet, aCat, aMax, aMin, aDiv, aRem, aI2l, aL2i, aNul, aSwS, aSw, aInc, aDup, aDup2, aPop1, aIret, aAret, aVret, aLen, aFk, aFT, Value.category, c_sh, c_f h1, f_sh hf, pa, pe, s1, kc, rf_1]
          · have e7' : I' 114 7 = nI P := by rw [hI 114 (by decide)]; exact e7
            rw [e_169]; simp [s_169, aILoad, aRLoad, aLLoad, aIStore, aRStore, aPush, aBin, aBinL, aShL, aUn, aIf, aIc, aGet, aPut, aIald, aBald, aAald, aIast, aBast, aAast, aAlen, aCopy, aCallV, aCallC, aCallI, aRet, aCat, aMax, aMin, aDiv, aRem, aI2l, aL2i, aNul, aSwS, aSw, aInc, aDup, aDup2, aPop1, aIret, aAret, aVret, aLen, aFk, aFT, Value.category, m_sh, m_p, r_isPerson, e7', hp, r_in, hz, re_1]
      · have good : ∀ z, (z = -1 ∨ (0 ≤ z ∧ z ≤ nI P - 1) ∧ ¬ z = nI p) → aCall aMt (d + 19) 109 [.ref 0, .ref (f + 13 + p), .int 2, .int z] (HH I x y) = some (some (.int 1), HH I x y) := by
          intro z hz
          rw [e_109]
          by_cases hm : z = -1
          · simp [s_109, aILoad, aRLoad, aLLoad, aIStore, aRStore, aPush, aBin, aBinL, aShL, aUn, aIf, aIc, aGet, aPut, aIald, aBald, aAald, aIast, aBast, aAast, aAlen, aCopy, aCallV, aCallC, aCallI, aRet, aCat, aMax, aMin, aDiv, aRem, aI2l, aL2i, aNul, aSwS, aSw, aInc, aDup, aDup2, aPop1, aIret, aAret, aVret, aLen, aFk, aFT, Value.category, hm]
          · obtain ⟨hr, hne⟩ := hz.resolve_left hm
            obtain ⟨q, hq, rfl⟩ := (isIx (by omega)).mp hr
            have pq := k_personAt (d := d + 16) (x := x) (y := y) hf hA.1 hq
            simp [s_109, aILoad, aRLoad, aLLoad, aIStore, aRStore, aPush, aBin, aBinL, aShL, aUn, aIf, aIc, aGet, aPut, aIald, aBald, aAald, aIast, aBast, aAast, aAlen, aCopy, aCallV, aCallC, aCallI, aRet, aCat, aMax, aMin, aDiv, aRem, aI2l, aL2i, aNul, aSwS, aSw, aInc, aDup, aDup2, aPop1, aIret, aAret, aVret, aLen, aFk, aFT, Value.category, c_sh, c_f h1, f_sh hf, hm, hne, s1, pe, pq]
        by_cases hz : z = -1 ∨ (0 ≤ z ∧ z ≤ nI P - 1) ∧ ¬ z = nI p
        · have kc := good z hz
          refine Pair.now (v := I 114 (14 + 5 * p)) (I1 := aUpd I (f + 13 + p) 5 z) (I2 := aUpd (aUpd I (f + 13 + p) 5 z) 114 (14 + 5 * p) z) (P := P) (T := T) h h1 ?_ ?_ (KG.rf.upd (by omega) (by omega)) (RG.rf.upd) ?_
          · rw [e_68]; simp [s_68, aILoad, aRLoad, aLLoad, aIStore, aRStore, aPush, aBin, aBinL, aShL, aUn, aIf, aIc, aGet, aPut, aIald, aBald, aAald, aIast, aBast, aAast, aAlen, aCopy, aCallV, aCallC, aCallI, aRet, aCat, aMax, aMin, aDiv, aRem, aI2l, aL2i, aNul, aSwS, aSw, aInc, aDup, aDup2, aPop1, aIret, aAret, aVret, aLen, aFk, aFT, Value.category, c_sh, c_f h1, f_sh hf, pa, pe, s1, kc]
          · rw [e_169]
            by_cases hm : z = -1
            · subst hm; simp [s_169, aILoad, aRLoad, aLLoad, aIStore, aRStore, aPush, aBin, aBinL, aShL, aUn, aIf, aIc, aGet, aPut, aIald, aBald, aAald, aIast, aBast, aAast, aAlen, aCopy, aCallV, aCallC, aCallI, aRet, aCat, aMax, aMin, aDiv, aRem, aI2l, aL2i, aNul, aSwS, aSw, aInc, aDup, aDup2, aPop1, aIret, aAret, aVret, aLen, aFk, aFT, Value.category, m_sh, m_p, r_isPerson, e114, e7, hp, r_in, ix2, ix3, r_change (show 14 + 5 * p < 454 by omega)]
            · obtain ⟨hr, hne⟩ := hz.resolve_left hm
              simp [s_169, aILoad, aRLoad, aLLoad, aIStore, aRStore, aPush, aBin, aBinL, aShL, aUn, aIf, aIc, aGet, aPut, aIald, aBald, aAald, aIast, aBast, aAast, aAlen, aCopy, aCallV, aCallC, aCallI, aRet, aCat, aMax, aMin, aDiv, aRem, aI2l, aL2i, aNul, aSwS, aSw, aInc, aDup, aDup2, aPop1, aIret, aAret, aVret, aLen, aFk, aFT, Value.category, m_sh, m_p, r_isPerson, e114, e7, hp, hr, hm, hne, r_in, ix2, ix3, r_change (show 14 + 5 * p < 454 by omega)]
          · simp only [aUpd_row, aUpd_ne (show 114 ≠ f + 13 + p by omega)]
            exact hA.setP (j := 4) hpP (by omega) (by omega) (fun z => by omega) (fun z => by omega) (fun z => by omega)
        · obtain ⟨hm, hz2⟩ := not_or.mp hz
          have kc : aCall aMt (d + 19) 109 [.ref 0, .ref (f + 13 + p), .int 2, .int z] (HH I x y) = some (some (.int 0), HH I x y) := by
            rw [e_109]
            by_cases he : z = nI p
            · simp [s_109, aILoad, aRLoad, aLLoad, aIStore, aRStore, aPush, aBin, aBinL, aShL, aUn, aIf, aIc, aGet, aPut, aIald, aBald, aAald, aIast, aBast, aAast, aAlen, aCopy, aCallV, aCallC, aCallI, aRet, aCat, aMax, aMin, aDiv, aRem, aI2l, aL2i, aNul, aSwS, aSw, aInc, aDup, aDup2, aPop1, aIret, aAret, aVret, aLen, aFk, aFT, Value.category, c_sh, c_f h1, f_sh hf, hm, he, s1, pe, show ¬ nI p = -1 from fun q => hm (he.trans q)]
            · have hr : ¬ (0 ≤ z ∧ z ≤ nI P - 1) := fun q => hz2 ⟨q, he⟩
              have pq := k_personNo (d := d + 16) (x := x) (y := y) hf hA.1 hr
              simp [s_109, aILoad, aRLoad, aLLoad, aIStore, aRStore, aPush, aBin, aBinL, aShL, aUn, aIf, aIc, aGet, aPut, aIald, aBald, aAald, aIast, aBast, aAast, aAlen, aCopy, aCallV, aCallC, aCallI, aRet, aCat, aMax, aMin, aDiv, aRem, aI2l, aL2i, aNul, aSwS, aSw, aInc, aDup, aDup2, aPop1, aIret, aAret, aVret, aLen, aFk, aFT, Value.category, c_sh, c_f h1, f_sh hf, hm, he, s1, pe, pq]
          refine Pair.ref 1 (-1000000001) h ?_ (fun I' hI => ?_)
          · rw [e_68]; simp [s_68, aILoad, aRLoad, aLLoad, aIStore, aRStore, aPush, aBin, aBinL, aShL, aUn, aIf, aIc, aGet, aPut, aIald, aBald, aAald, aIast, aBast, aAast, aAlen, aCopy, aCallV, aCallC, aCallI, aRet, aCat, aMax, aMin, aDiv, aRem, aI2l, aL2i, aNul, aSwS, aSw, aInc, aDup, aDup2, aPop1, aIret, aAret, aVret, aLen, aFk, aFT, Value.category, c_sh, c_f h1, f_sh hf, pa, pe, s1, kc, rf_1]
          · have e7' : I' 114 7 = nI P := by rw [hI 114 (by decide)]; exact e7
            rw [e_169]
            by_cases hr : 0 ≤ z ∧ z ≤ nI P - 1
            · have he : z = nI p := Classical.byContradiction fun q => hz2 ⟨hr, q⟩
              have hm' : ¬ nI p = -1 := fun q => hm (he.trans q)
              subst he
              simp [s_169, aILoad, aRLoad, aLLoad, aIStore, aRStore, aPush, aBin, aBinL, aShL, aUn, aIf, aIc, aGet, aPut, aIald, aBald, aAald, aIast, aBast, aAast, aAlen, aCopy, aCallV, aCallC, aCallI, aRet, aCat, aMax, aMin, aDiv, aRem, aI2l, aL2i, aNul, aSwS, aSw, aInc, aDup, aDup2, aPop1, aIret, aAret, aVret, aLen, aFk, aFT, Value.category, m_sh, m_p, r_isPerson, e7', hp, r_in, hm', re_1]
            · simp [s_169, aILoad, aRLoad, aLLoad, aIStore, aRStore, aPush, aBin, aBinL, aShL, aUn, aIf, aIc, aGet, aPut, aIald, aBald, aAald, aIast, aBast, aAast, aAlen, aCopy, aCallV, aCallC, aCallI, aRet, aCat, aMax, aMin, aDiv, aRem, aI2l, aL2i, aNul, aSwS, aSw, aInc, aDup, aDup2, aPop1, aIret, aAret, aVret, aLen, aFk, aFT, Value.category, m_sh, m_p, r_isPerson, e7', hp, r_in, hm, hr, re_1]
    · have w0 : ¬ w = 0 := fun z => hw (by subst z; decide)
      have w1 : ¬ w = 1 := fun z => hw (by subst z; decide)
      have w2 : ¬ w = 2 := fun z => hw (by subst z; decide)
      have kc : aCall aMt (d + 19) 109 [.ref 0, .ref (f + 13 + p), .int w, .int z] (HH I x y) = some (some (.int 0), HH I x y) := by
        rw [e_109]; simp [s_109, aILoad, aRLoad, aLLoad, aIStore, aRStore, aPush, aBin, aBinL, aShL, aUn, aIf, aIc, aGet, aPut, aIald, aBald, aAald, aIast, aBast, aAast, aAlen, aCopy, aCallV, aCallC, aCallI, aRet, aCat, aMax, aMin, aDiv, aRem, aI2l, aL2i, aNul, aSwS, aSw, aInc, aDup, aDup2, aPop1, aIret, aAret, aVret, aLen, aFk, aFT, Value.category, w0, w1, w2]
      refine Pair.ref 1 (-1000000001) h ?_ (fun I' hI => ?_)
      · rw [e_68]; simp [s_68, aILoad, aRLoad, aLLoad, aIStore, aRStore, aPush, aBin, aBinL, aShL, aUn, aIf, aIc, aGet, aPut, aIald, aBald, aAald, aIast, aBast, aAast, aAlen, aCopy, aCallV, aCallC, aCallI, aRet, aCat, aMax, aMin, aDiv, aRem, aI2l, aL2i, aNul, aSwS, aSw, aInc, aDup, aDup2, aPop1, aIret, aAret, aVret, aLen, aFk, aFT, Value.category, c_sh, c_f h1, f_sh hf, pa, pe, s1, kc, rf_1]
      · have e7' : I' 114 7 = nI P := by rw [hI 114 (by decide)]; exact e7
        rw [e_169]; simp [s_169, aILoad, aRLoad, aLLoad, aIStore, aRStore, aPush, aBin, aBinL, aShL, aUn, aIf, aIc, aGet, aPut, aIald, aBald, aAald, aIast, aBast, aAast, aAlen, aCopy, aCallV, aCallC, aCallI, aRet, aCat, aMax, aMin, aDiv, aRem, aI2l, aL2i, aNul, aSwS, aSw, aInc, aDup, aDup2, aPop1, aIret, aAret, aVret, aLen, aFk, aFT, Value.category, m_sh, m_p, r_isPerson, e7', hp, r_in, hw, re_1]
  · have pa := k_personNo (d := d + 17) (x := x) (y := y) hf hA.1 hp
    refine Pair.ref 1 (-1000000001) h ?_ (fun I' hI => ?_)
    · rw [e_68]; simp [s_68, aILoad, aRLoad, aLLoad, aIStore, aRStore, aPush, aBin, aBinL, aShL, aUn, aIf, aIc, aGet, aPut, aIald, aBald, aAald, aIast, aBast, aAast, aAlen, aCopy, aCallV, aCallC, aCallI, aRet, aCat, aMax, aMin, aDiv, aRem, aI2l, aL2i, aNul, aSwS, aSw, aInc, aDup, aDup2, aPop1, aIret, aAret, aVret, aLen, aFk, aFT, Value.category, c_sh, c_f h1, f_sh hf, pa, rf_1]
    · have e7' : I' 114 7 = nI P := by rw [hI 114 (by decide)]; exact e7
      rw [e_169]; simp [s_169, aILoad, aRLoad, aLLoad, aIStore, aRStore, aPush, aBin, aBinL, aShL, aUn, aIf, aIc, aGet, aPut, aIald, aBald, aAald, aIast, aBast, aAast, aAlen, aCopy, aCallV, aCallC, aCallI, aRet, aCat, aMax, aMin, aDiv, aRem, aI2l, aL2i, aNul, aSwS, aSw, aInc, aDup, aDup2, aPop1, aIret, aAret, aVret, aLen, aFk, aFT, Value.category, m_sh, m_p, r_isPerson, e7', hp, re_1]
end PAIR4
