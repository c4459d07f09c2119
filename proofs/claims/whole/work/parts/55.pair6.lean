/-! the calls in pairs: thingIs, mark, anew -/
section PAIR6
variable {d : Nat} {I : Nat → Nat → Int32} {x y : Option Nat}
/-- both answer v with nothing changed but scratch -/
theorem Pair.scr {cm rm f : Nat} {args : List Value} {v : Int32} {I1 I2 : Nat → Nat → Int32} (h : Rel I) (h1 : f = 1) (hc : aCall aMt (d + 20) cm (.ref 0 :: args) (HH I x y) = some (some (.int v), HH I1 x y))
    (hr : aCall aMt (d + 20) rm (.ref 113 :: args) (HH I1 x y) = some (some (.int v), HH I2 x y)) (hI : KF f I I1) (hJ : RF I1 I2) :
    ∃ v I1 x1 y1 I2, aCall aMt (d + 20) cm (.ref 0 :: args) (HH I x y) = some (some (.int v), HH I1 x1 y1) ∧ aCall aMt (d + 20) rm (.ref 113 :: args) (HH I1 x1 y1) = some (some (.int v), HH I2 x1 y1) ∧ Rel I2 := by
  subst h1
  exact Pair.same h hc hr (fun r a b c _ => by rw [hJ r (by omega) (by omega), hI r (by omega) (by omega)]) (h.2.2.1.rows fun r b c => by rw [hJ r (by omega) (by omega), hI r (by omega) (by omega)]) (fun r a b c => by rw [hJ r b c, hI r (by omega) (by omega)])
theorem pair_thingIs (v w : Int32) : Pair 70 172 [.int v, .int w] := by
  intro d I x y h
  obtain ⟨f, P, T, h1, hf, hA⟩ := h.f
  have hP := hA.1.1
  have e8 := hA.1.fi.2.2.2.1
  by_cases hp : 0 ≤ v ∧ v ≤ nI T - 1
  · obtain ⟨t, ht, rfl⟩ := (isIx (by omega)).mp hp
    have pa := k_thingAt (d := d + 17) (x := x) (y := y) hf hA.1 ht
    have pe := hA.1.th ht
    have s1 := f_th hf (show t < 10 by omega)
    by_cases hw : 0 ≤ w ∧ w ≤ 7
    · rcases in_07 hw with rfl | rfl | rfl | rfl | rfl | rfl | rfl | rfl
      · refine Pair.id (v := I 114 (50 + 7 * t)) h ?_ ?_
        · rw [e_70]; simp [s_70, aILoad, aRLoad, aLLoad, aIStore, aRStore, aPush, aBin, aBinL, aShL, aUn, aIf, aIc, aGet, aPut, aIald, aBald, aAald, aIast, aBast, aAast, aAlen, aCopy, aCallV, aCallC, aCallI, aRet, aCat, aMax, aMin, aDiv, aRem, aI2l, aL2i, aNul, aSwS, aSw, aInc, aDup, aDup2, aPop1, aIret, aAret, aVret, aLen, aFk, aFT, Value.category, c_sh, c_f h1, f_sh hf, pa, pe, s1]
        · rw [e_172]; simp [s_172, aILoad, aRLoad, aLLoad, aIStore, aRStore, aPush, aBin, aBinL, aShL, aUn, aIf, aIc, aGet, aPut, aIald, aBald, aAald, aIast, aBast, aAast, aAlen, aCopy, aCallV, aCallC, aCallI, aRet, aCat, aMax, aMin, aDiv, aRem, aI2l, aL2i, aNul, aSwS, aSw, aInc, aDup, aDup2, aPop1, aIret, aAret, aVret, aLen, aFk, aFT, Value.category, m_sh, m_p, r_isThing, e8, hp, r_in, r_of (show t < 10 by omega), show 50 + 7 * t + 0 = 50 + 7 * t by omega]
      · refine Pair.id (v := I 114 (51 + 7 * t)) h ?_ ?_
        · rw [e_70]; simp [s_70, aILoad, aRLoad, aLLoad, aIStore, aRStore, aPush, aBin, aBinL, aShL, aUn, aIf, aIc, aGet, aPut, aIald, aBald, aAald, aIast, aBast, aAast, aAlen, aCopy, aCallV, aCallC, aCallI, aRet, aCat, aMax, aMin, aDiv, aRem, aI2l, aL2i, aNul, aSwS, aSw, aInc, aDup, aDup2, aPop1, aIret, aAret, aVret, aLen, aFk, aFT, Value.category, c_sh, c_f h1, f_sh hf, pa, pe, s1]
        · rw [e_172]; simp [s_172, aILoad, aRLoad, aLLoad, aIStore, aRStore, aPush, aBin, aBinL, aShL, aUn, aIf, aIc, aGet, aPut, aIald, aBald, aAald, aIast, aBast, aAast, aAlen, aCopy, aCallV, aCallC, aCallI, aRet, aCat, aMax, aMin, aDiv, aRem, aI2l, aL2i, aNul, aSwS, aSw, aInc, aDup, aDup2, aPop1, aIret, aAret, aVret, aLen, aFk, aFT, Value.category, m_sh, m_p, r_isThing, e8, hp, r_in, r_of (show t < 10 by omega), show 50 + 7 * t + 1 = 51 + 7 * t by omega]
      · refine Pair.id (v := I 114 (52 + 7 * t)) h ?_ ?_
        · rw [e_70]; simp [s_70, aILoad, aRLoad, aLLoad, aIStore, aRStore, aPush, aBin, aBinL, aShL, aUn, aIf, aIc, aGet, aPut, aIald, aBald, aAald, aIast, aBast, aAast, aAlen, aCopy, aCallV, aCallC, aCallI, aRet, aCat, aMax, aMin, aDiv, aRem, aI2l, aL2i, aNul, aSwS, aSw, aInc, aDup, aDup2, aPop1, aIret, aAret, aVret, aLen, aFk, aFT, Value.category, c_sh, c_f h1, f_sh hf, pa, pe, s1]
        · rw [e_172]; simp [s_172, aILoad, aRLoad, aLLoad, aIStore, aRStore, aPush, aBin, aBinL, aShL, aUn, aIf, aIc, aGet, aPut, aIald, aBald, aAald, aIast, aBast, aAast, aAlen, aCopy, aCallV, aCallC, aCallI, aRet, aCat, aMax, aMin, aDiv, aRem, aI2l, aL2i, aNul, aSwS, aSw, aInc, aDup, aDup2, aPop1, aIret, aAret, aVret, aLen, aFk, aFT, Value.category, m_sh, m_p, r_isThing, e8, hp, r_in, r_of (show t < 10 by omega), show 50 + 7 * t + 2 = 52 + 7 * t by omega]
      · refine Pair.id (v := I 114 (53 + 7 * t)) h ?_ ?_
        · rw [e_70]; simp [s_70, aILoad, aRLoad, aLLoad, aIStore, aRStore, aPush, aBin, aBinL, aShL, aUn, aIf, aIc, aGet, aPut, aIald, aBald, aAald, aIast, aBast, aAast, aAlen, aCopy, aCallV, aCallC, aCallI, aRet, aCat, aMax, aMin, aDiv, aRem, aI2l, aL2i, aNul, aSwS, aSw, aInc, aDup, aDup2, aPop1, aIret, aAret, aVret, aLen, aFk, aFT, Value.category, c_sh, c_f h1, f_sh hf, pa, pe, s1]
        · rw [e_172]; simp [s_172, aILoad, aRLoad, aLLoad, aIStore, aRStore, aPush, aBin, aBinL, aShL, aUn, aIf, aIc, aGet, aPut, aIald, aBald, aAald, aIast, aBast, aAast, aAlen, aCopy, aCallV, aCallC, aCallI, aRet, aCat, aMax, aMin, aDiv, aRem, aI2l, aL2i, aNul, aSwS, aSw, aInc, aDup, aDup2, aPop1, aIret, aAret, aVret, aLen, aFk, aFT, Value.category, m_sh, m_p, r_isThing, e8, hp, r_in, r_of (show t < 10 by omega), show 50 + 7 * t + 3 = 53 + 7 * t by omega]
      · refine Pair.id (v := I 114 (55 + 7 * t)) h ?_ ?_
        · rcases (hA.2.2.2.1 t ht).2.2 with hi | ⟨hi, _⟩
          · rw [e_70, hi]; simp [s_70, aILoad, aRLoad, aLLoad, aIStore, aRStore, aPush, aBin, aBinL, aShL, aUn, aIf, aIc, aGet, aPut, aIald, aBald, aAald, aIast, aBast, aAast, aAlen, aCopy, aCallV, aCallC, aCallI, aRet, aCat, aMax, aMin, aDiv, aRem, aI2l, aL2i, aNul, aSwS, aSw, aInc, aDup, aDup2, aPop1, aIret, aAret, aVret, aLen, aFk, aFT, Value.category, c_sh, c_f h1, f_sh hf, pa, pe, s1, hi]
          · rw [e_70, hi]; simp [s_70, aILoad, aRLoad, aLLoad, aIStore, aRStore, aPush, aBin, aBinL, aShL, aUn, aIf, aIc, aGet, aPut, aIald, aBald, aAald, aIast, aBast, aAast, aAlen, aCopy, aCallV, aCallC, aCallI, aRet, aCat, aMax, aMin, aDiv, aRem, aI2l, aL2i, aNul, aSwS, aSw, aInc, aDup, aDup2, aPop1, aIret, aAret, aVret, aLen, aFk, aFT, Value.category, c_sh, c_f h1, f_sh hf, pa, pe, s1, hi]
        · rw [e_172]; simp [s_172, aILoad, aRLoad, aLLoad, aIStore, aRStore, aPush, aBin, aBinL, aShL, aUn, aIf, aIc, aGet, aPut, aIald, aBald, aAald, aIast, aBast, aAast, aAlen, aCopy, aCallV, aCallC, aCallI, aRet, aCat, aMax, aMin, aDiv, aRem, aI2l, aL2i, aNul, aSwS, aSw, aInc, aDup, aDup2, aPop1, aIret, aAret, aVret, aLen, aFk, aFT, Value.category, m_sh, m_p, r_isThing, e8, hp, r_in, r_of (show t < 10 by omega), show 50 + 7 * t + 5 = 55 + 7 * t by omega]
      · refine Pair.id (v := I 114 (56 + 7 * t)) h ?_ ?_
        · rw [e_70]; simp [s_70, aILoad, aRLoad, aLLoad, aIStore, aRStore, aPush, aBin, aBinL, aShL, aUn, aIf, aIc, aGet, aPut, aIald, aBald, aAald, aIast, aBast, aAast, aAlen, aCopy, aCallV, aCallC, aCallI, aRet, aCat, aMax, aMin, aDiv, aRem, aI2l, aL2i, aNul, aSwS, aSw, aInc, aDup, aDup2, aPop1, aIret, aAret, aVret, aLen, aFk, aFT, Value.category, c_sh, c_f h1, f_sh hf, pa, pe, s1]
        · rw [e_172]; simp [s_172, aILoad, aRLoad, aLLoad, aIStore, aRStore, aPush, aBin, aBinL, aShL, aUn, aIf, aIc, aGet, aPut, aIald, aBald, aAald, aIast, aBast, aAast, aAlen, aCopy, aCallV, aCallC, aCallI, aRet, aCat, aMax, aMin, aDiv, aRem, aI2l, aL2i, aNul, aSwS, aSw, aInc, aDup, aDup2, aPop1, aIret, aAret, aVret, aLen, aFk, aFT, Value.category, m_sh, m_p, r_isThing, e8, hp, r_in, r_of (show t < 10 by omega), show 50 + 7 * t + 6 = 56 + 7 * t by omega]
      · refine Pair.id (v := I 114 (54 + 7 * t)) h ?_ ?_
        · rw [e_70]; simp [s_70, aILoad, aRLoad, aLLoad, aIStore, aRStore, aPush, aBin, aBinL, aShL, aUn, aIf, aIc, aGet, aPut, aIald, aBald, aAald, aIast, aBast, aAast, aAlen, aCopy, aCallV, aCallC, aCallI, aRet, aCat, aMax, aMin, aDiv, aRem, aI2l, aL2i, aNul, aSwS, aSw, aInc, aDup, aDup2, aPop1, aIret, aAret, aVret, aLen, aFk, aFT, Value.category, c_sh, c_f h1, f_sh hf, pa, pe, s1]
        · rw [e_172]; simp [s_172, aILoad, aRLoad, aLLoad, aIStore, aRStore, aPush, aBin, aBinL, aShL, aUn, aIf, aIc, aGet, aPut, aIald, aBald, aAald, aIast, aBast, aAast, aAlen, aCopy, aCallV, aCallC, aCallI, aRet, aCat, aMax, aMin, aDiv, aRem, aI2l, aL2i, aNul, aSwS, aSw, aInc, aDup, aDup2, aPop1, aIret, aAret, aVret, aLen, aFk, aFT, Value.category, m_sh, m_p, r_isThing, e8, hp, r_in, r_of (show t < 10 by omega), show 50 + 7 * t + 4 = 54 + 7 * t by omega]
      · obtain ⟨I1, k1, k2⟩ := k_appealOf (d := d + 15) (x := x) (y := y) hf hA.1 ht hA.2.2.ok
        have e114 : I1 114 = I 114 := k2 114 (by omega) (by omega)
        obtain ⟨I2, r1, r2⟩ := r_appeal (d := d + 15) (x := x) (y := y) (I := I1) (show t < 10 by omega) (by rw [e114]; exact hA.2.2.ok.1)
        rw [e114] at r1
        refine Pair.scr (v := sApp (I 114) t) h h1 ?_ ?_ k2 r2
        · rw [e_70]; simp [s_70, aILoad, aRLoad, aLLoad, aIStore, aRStore, aPush, aBin, aBinL, aShL, aUn, aIf, aIc, aGet, aPut, aIald, aBald, aAald, aIast, aBast, aAast, aAlen, aCopy, aCallV, aCallC, aCallI, aRet, aCat, aMax, aMin, aDiv, aRem, aI2l, aL2i, aNul, aSwS, aSw, aInc, aDup, aDup2, aPop1, aIret, aAret, aVret, aLen, aFk, aFT, Value.category, c_sh, c_f h1, f_sh hf, pa, pe, s1, k1]
        · rw [e_172]; simp [s_172, aILoad, aRLoad, aLLoad, aIStore, aRStore, aPush, aBin, aBinL, aShL, aUn, aIf, aIc, aGet, aPut, aIald, aBald, aAald, aIast, aBast, aAast, aAlen, aCopy, aCallV, aCallC, aCallI, aRet, aCat, aMax, aMin, aDiv, aRem, aI2l, aL2i, aNul, aSwS, aSw, aInc, aDup, aDup2, aPop1, aIret, aAret, aVret, aLen, aFk, aFT, Value.category, m_sh, m_p, r_isThing, e114, e8, hp, r_in, r1]
    · have w0 : ¬ w = 0 := fun z => hw (by subst z; decide)
      have w1 : ¬ w = 1 := fun z => hw (by subst z; decide)
      have w2 : ¬ w = 2 := fun z => hw (by subst z; decide)
      have w3 : ¬ w = 3 := fun z => hw (by subst z; decide)
      have w4 : ¬ w = 4 := fun z => hw (by subst z; decide)
      have w5 : ¬ w = 5 := fun z => hw (by subst z; decide)
      have w6 : ¬ w = 6 := fun z => hw (by subst z; decide)
      have w7 : ¬ w = 7 := fun z => hw (by subst z; decide)
      refine Pair.ref 1 (-1000000001) h ?_ (fun I' hI => ?_)
      · rw [e_70]; simp [s_70, aILoad, aRLoad, aLLoad, aIStore, aRStore, aPush, aBin, aBinL, aShL, aUn, aIf, aIc, aGet, aPut, aIald, aBald, aAald, aIast, aBast, aAast, aAlen, aCopy, aCallV, aCallC, aCallI, aRet, aCat, aMax, aMin, aDiv, aRem, aI2l, aL2i, aNul, aSwS, aSw, aInc, aDup, aDup2, aPop1, aIret, aAret, aVret, aLen, aFk, aFT, Value.category, c_sh, c_f h1, f_sh hf, pa, s1, w0, w1, w2, w3, w4, w5, w6, w7, rf_1]
      · have e8' : I' 114 8 = nI T := by rw [hI 114 (by decide)]; exact e8
        rw [e_172]; simp [s_172, aILoad, aRLoad, aLLoad, aIStore, aRStore, aPush, aBin, aBinL, aShL, aUn, aIf, aIc, aGet, aPut, aIald, aBald, aAald, aIast, aBast, aAast, aAlen, aCopy, aCallV, aCallC, aCallI, aRet, aCat, aMax, aMin, aDiv, aRem, aI2l, aL2i, aNul, aSwS, aSw, aInc, aDup, aDup2, aPop1, aIret, aAret, aVret, aLen, aFk, aFT, Value.category, m_sh, m_p, r_isThing, e8', hp, r_in, hw, re_1]
  · have pa := k_thingNo (d := d + 17) (x := x) (y := y) hf hA.1 hp
    refine Pair.ref 1 (-1000000001) h ?_ (fun I' hI => ?_)
    · rw [e_70]; simp [s_70, aILoad, aRLoad, aLLoad, aIStore, aRStore, aPush, aBin, aBinL, aShL, aUn, aIf, aIc, aGet, aPut, aIald, aBald, aAald, aIast, aBast, aAast, aAlen, aCopy, aCallV, aCallC, aCallI, aRet, aCat, aMax, aMin, aDiv, aRem, aI2l, aL2i, aNul, aSwS, aSw, aInc, aDup, aDup2, aPop1, aIret, aAret, aVret, aLen, aFk, aFT, Value.category, c_sh, c_f h1, f_sh hf, pa, rf_1]
    · have e8' : I' 114 8 = nI T := by rw [hI 114 (by decide)]; exact e8
      rw [e_172]; simp [s_172, aILoad, aRLoad, aLLoad, aIStore, aRStore, aPush, aBin, aBinL, aShL, aUn, aIf, aIc, aGet, aPut, aIald, aBald, aAald, aIast, aBast, aAast, aAlen, aCopy, aCallV, aCallC, aCallI, aRet, aCat, aMax, aMin, aDiv, aRem, aI2l, aL2i, aNul, aSwS, aSw, aInc, aDup, aDup2, aPop1, aIret, aAret, aVret, aLen, aFk, aFT, Value.category, m_sh, m_p, r_isThing, e8', hp, re_1]
theorem pair_mark (v w z : Int32) : Pair 71 173 [.int v, .int w, .int z] := by
  intro d I x y h
  obtain ⟨f, P, T, h1, hf, hA⟩ := h.f
  have hP := hA.1.1
  have e8 := hA.1.fi.2.2.2.1
  by_cases hp : 0 ≤ v ∧ v ≤ nI T - 1
  · obtain ⟨t, ht, rfl⟩ := (isIx (by omega)).mp hp
    have pa := k_thingAt (d := d + 17) (x := x) (y := y) hf hA.1 ht
    have pe := hA.1.th ht
    have s1 := f_th hf (show t < 10 by omega)
    have e114 : ∀ j a, aUpd I (f + 21 + t) j a 114 = I 114 := fun j a => aUpd_ne (by omega)
    have ix1 : (50 : Int32) + 7 * nI t + 1 = nI (51 + 7 * t) := by
      rw [ix_t (t := t) (w := 1) (by omega) (by decide) (by decide)]; congr 1; rw [show (1 : Int32).toNatClampNeg = 1 from rfl]; omega
    have rt := r_isThere (d := d + 17) (x := x) (y := y) (I := I) (show t < 10 by omega)
    by_cases hw : 0 ≤ w ∧ w ≤ 3
    · rcases in_03 hw with rfl | rfl | rfl | rfl
      · have ixw : nI (51 + 7 * t) + 0 = nI (51 + 7 * t) := by rw [show (0 : Int32) = nI 0 from rfl, nI_add] <;> (congr 1 <;> omega)
        by_cases hz : 0 ≤ z ∧ z ≤ 2
        · rcases (hA.2.2.2.1 t ht).2.2 with hi | ⟨hi, _⟩
          · refine Pair.ref 3 (-1000000003) h ?_ (fun I' hI => ?_)
            · rw [e_71]; simp [s_71, aILoad, aRLoad, aLLoad, aIStore, aRStore, aPush, aBin, aBinL, aShL, aUn, aIf, aIc, aGet, aPut, aIald, aBald, aAald, aIast, aBast, aAast, aAlen, aCopy, aCallV, aCallC, aCallI, aRet, aCat, aMax, aMin, aDiv, aRem, aI2l, aL2i, aNul, aSwS, aSw, aInc, aDup, aDup2, aPop1, aIret, aAret, aVret, aLen, aFk, aFT, Value.category, c_sh, c_f h1, f_sh hf, pa, pe, s1, k_isIn, st_sh, aSt, aMM, hz, hi, rf_3]
            · have e8' : I' 114 8 = nI T := by rw [hI 114 (by decide)]; exact e8
              have hi' : I' 114 (55 + 7 * t) = 0 := by rw [hI 114 (by decide)]; exact hi
              rw [e_173]; simp [s_173, aILoad, aRLoad, aLLoad, aIStore, aRStore, aPush, aBin, aBinL, aShL, aUn, aIf, aIc, aGet, aPut, aIald, aBald, aAald, aIast, aBast, aAast, aAlen, aCopy, aCallV, aCallC, aCallI, aRet, aCat, aMax, aMin, aDiv, aRem, aI2l, aL2i, aNul, aSwS, aSw, aInc, aDup, aDup2, aPop1, aIret, aAret, aVret, aLen, aFk, aFT, Value.category, m_sh, m_p, r_isThing, e8', hp, r_in, r_greatest, r_isThere (show t < 10 by omega), hz, hi', re_3]
          · refine Pair.now (v := I 114 (51 + 7 * t)) (I1 := aUpd I (f + 21 + t) 1 z) (I2 := aUpd (aUpd I (f + 21 + t) 1 z) 114 (51 + 7 * t) z) (P := P) (T := T) h h1 ?_ ?_ (KG.rf.upd (by omega) (by omega)) (RG.rf.upd) ?_
            · rw [e_71]; simp [s_71, aILoad, aRLoad, aLLoad, aIStore, aRStore, aPush, aBin, aBinL, aShL, aUn, aIf, aIc, aGet, aPut, aIald, aBald, aAald, aIast, aBast, aAast, aAlen, aCopy, aCallV, aCallC, aCallI, aRet, aCat, aMax, aMin, aDiv, aRem, aI2l, aL2i, aNul, aSwS, aSw, aInc, aDup, aDup2, aPop1, aIret, aAret, aVret, aLen, aFk, aFT, Value.category, c_sh, c_f h1, f_sh hf, pa, pe, s1, k_isIn, st_sh, aSt, aMM, hz, hi]
            · rw [e_173]; simp [s_173, aILoad, aRLoad, aLLoad, aIStore, aRStore, aPush, aBin, aBinL, aShL, aUn, aIf, aIc, aGet, aPut, aIald, aBald, aAald, aIast, aBast, aAast, aAlen, aCopy, aCallV, aCallC, aCallI, aRet, aCat, aMax, aMin, aDiv, aRem, aI2l, aL2i, aNul, aSwS, aSw, aInc, aDup, aDup2, aPop1, aIret, aAret, aVret, aLen, aFk, aFT, Value.category, m_sh, m_p, r_isThing, e114, e8, hp, r_in, r_greatest, r_isThere (show t < 10 by omega), hz, hi, ix1, ixw, r_change (show 51 + 7 * t < 454 by omega)]
            · simp only [aUpd_row, aUpd_ne (show 114 ≠ f + 21 + t by omega)]
              exact hA.setT (j := 1) ht (by omega) (by omega) (fun z => by omega) (fun q => by omega) (fun z => by omega) (fun z => by omega)
        · refine Pair.ref 1 (-1000000001) h ?_ (fun I' hI => ?_)
          · rw [e_71]; simp [s_71, aILoad, aRLoad, aLLoad, aIStore, aRStore, aPush, aBin, aBinL, aShL, aUn, aIf, aIc, aGet, aPut, aIald, aBald, aAald, aIast, aBast, aAast, aAlen, aCopy, aCallV, aCallC, aCallI, aRet, aCat, aMax, aMin, aDiv, aRem, aI2l, aL2i, aNul, aSwS, aSw, aInc, aDup, aDup2, aPop1, aIret, aAret, aVret, aLen, aFk, aFT, Value.category, c_sh, c_f h1, f_sh hf, pa, pe, s1, k_isIn, st_sh, aSt, aMM, hz, rf_1]
          · have e8' : I' 114 8 = nI T := by rw [hI 114 (by decide)]; exact e8
            rw [e_173]; simp [s_173, aILoad, aRLoad, aLLoad, aIStore, aRStore, aPush, aBin, aBinL, aShL, aUn, aIf, aIc, aGet, aPut, aIald, aBald, aAald, aIast, aBast, aAast, aAlen, aCopy, aCallV, aCallC, aCallI, aRet, aCat, aMax, aMin, aDiv, aRem, aI2l, aL2i, aNul, aSwS, aSw, aInc, aDup, aDup2, aPop1, aIret, aAret, aVret, aLen, aFk, aFT, Value.category, m_sh, m_p, r_isThing, e8', hp, r_in, r_greatest, hz, re_1]
      · have ixw : nI (51 + 7 * t) + 1 = nI (52 + 7 * t) := by rw [show (1 : Int32) = nI 1 from rfl, nI_add] <;> (congr 1 <;> omega)
        by_cases hz : 0 ≤ z ∧ z ≤ 3
        · rcases (hA.2.2.2.1 t ht).2.2 with hi | ⟨hi, _⟩
          · refine Pair.ref 3 (-1000000003) h ?_ (fun I' hI => ?_)
            · rw [e_71]; simp [s_71, aILoad, aRLoad, aLLoad, aIStore, aRStore, aPush, aBin, aBinL, aShL, aUn, aIf, aIc, aGet, aPut, aIald, aBald, aAald, aIast, aBast, aAast, aAlen, aCopy, aCallV, aCallC, aCallI, aRet, aCat, aMax, aMin, aDiv, aRem, aI2l, aL2i, aNul, aSwS, aSw, aInc, aDup, aDup2, aPop1, aIret, aAret, aVret, aLen, aFk, aFT, Value.category, c_sh, c_f h1, f_sh hf, pa, pe, s1, k_isIn, st_sh, aSt, aMM, hz, hi, rf_3]
            · have e8' : I' 114 8 = nI T := by rw [hI 114 (by decide)]; exact e8
              have hi' : I' 114 (55 + 7 * t) = 0 := by rw [hI 114 (by decide)]; exact hi
              rw [e_173]; simp [s_173, aILoad, aRLoad, aLLoad, aIStore, aRStore, aPush, aBin, aBinL, aShL, aUn, aIf, aIc, aGet, aPut, aIald, aBald, aAald, aIast, aBast, aAast, aAlen, aCopy, aCallV, aCallC, aCallI, aRet, aCat, aMax, aMin, aDiv, aRem, aI2l, aL2i, aNul, aSwS, aSw, aInc, aDup, aDup2, aPop1, aIret, aAret, aVret, aLen, aFk, aFT, Value.category, m_sh, m_p, r_isThing, e8', hp, r_in, r_greatest, r_isThere (show t < 10 by omega), hz, hi', re_3]
          · refine Pair.now (v := I 114 (52 + 7 * t)) (I1 := aUpd I (f + 21 + t) 2 z) (I2 := aUpd (aUpd I (f + 21 + t) 2 z) 114 (52 + 7 * t) z) (P := P) (T := T) h h1 ?_ ?_ (KG.rf.upd (by omega) (by omega)) (RG.rf.upd) ?_
            · rw [e_71]; simp [s_71, aILoad, aRLoad, aLLoad, aIStore, aRStore, aPush, aBin, aBinL, aShL, aUn, aIf, aIc, aGet, aPut, aIald, aBald, aAald, aIast, aBast, aAast, aAlen, aCopy, aCallV, aCallC, aCallI, aRet, aCat, aMax, aMin, aDiv, aRem, aI2l, aL2i, aNul, aSwS, aSw, aInc, aDup, aDup2, aPop1, aIret, aAret, aVret, aLen, aFk, aFT, Value.category, c_sh, c_f h1, f_sh hf, pa, pe, s1, k_isIn, st_sh, aSt, aMM, hz, hi]
            · rw [e_173]; simp [s_173, aILoad, aRLoad, aLLoad, aIStore, aRStore, aPush, aBin, aBinL, aShL, aUn, aIf, aIc, aGet, aPut, aIald, aBald, aAald, aIast, aBast, aAast, aAlen, aCopy, aCallV, aCallC, aCallI, aRet, aCat, aMax, aMin, aDiv, aRem, aI2l, aL2i, aNul, aSwS, aSw, aInc, aDup, aDup2, aPop1, aIret, aAret, aVret, aLen, aFk, aFT, Value.category, m_sh, m_p, r_isThing, e114, e8, hp, r_in, r_greatest, r_isThere (show t < 10 by omega), hz, hi, ix1, ixw, r_change (show 52 + 7 * t < 454 by omega)]
            · simp only [aUpd_row, aUpd_ne (show 114 ≠ f + 21 + t by omega)]
              exact hA.setT (j := 2) ht (by omega) (by omega) (fun z => by omega) (fun q => by omega) (fun z => by omega) (fun z => by omega)
        · refine Pair.ref 1 (-1000000001) h ?_ (fun I' hI => ?_)
          · rw [e_71]; simp [s_71, aILoad, aRLoad, aLLoad, aIStore, aRStore, aPush, aBin, aBinL, aShL, aUn, aIf, aIc, aGet, aPut, aIald, aBald, aAald, aIast, aBast, aAast, aAlen, aCopy, aCallV, aCallC, aCallI, aRet, aCat, aMax, aMin, aDiv, aRem, aI2l, aL2i, aNul, aSwS, aSw, aInc, aDup, aDup2, aPop1, aIret, aAret, aVret, aLen, aFk, aFT, Value.category, c_sh, c_f h1, f_sh hf, pa, pe, s1, k_isIn, st_sh, aSt, aMM, hz, rf_1]
          · have e8' : I' 114 8 = nI T := by rw [hI 114 (by decide)]; exact e8
            rw [e_173]; simp [s_173, aILoad, aRLoad, aLLoad, aIStore, aRStore, aPush, aBin, aBinL, aShL, aUn, aIf, aIc, aGet, aPut, aIald, aBald, aAald, aIast, aBast, aAast, aAlen, aCopy, aCallV, aCallC, aCallI, aRet, aCat, aMax, aMin, aDiv, aRem, aI2l, aL2i, aNul, aSwS, aSw, aInc, aDup, aDup2, aPop1, aIret, aAret, aVret, aLen, aFk, aFT, Value.category, m_sh, m_p, r_isThing, e8', hp, r_in, r_greatest, hz, re_1]
      · have ixw : nI (51 + 7 * t) + 2 = nI (53 + 7 * t) := by rw [show (2 : Int32) = nI 2 from rfl, nI_add] <;> (congr 1 <;> omega)
        by_cases hz : 0 ≤ z ∧ z ≤ 9
        · rcases (hA.2.2.2.1 t ht).2.2 with hi | ⟨hi, _⟩
          · refine Pair.ref 3 (-1000000003) h ?_ (fun I' hI => ?_)
            · rw [e_71]; simp [s_71, aILoad, aRLoad, aLLoad, aIStore, aRStore, aPush, aBin, aBinL, aShL, aUn, aIf, aIc, aGet, aPut, aIald, aBald, aAald, aIast, aBast, aAast, aAlen, aCopy, aCallV, aCallC, aCallI, aRet, aCat, aMax, aMin, aDiv, aRem, aI2l, aL2i, aNul, aSwS, aSw, aInc, aDup, aDup2, aPop1, aIret, aAret, aVret, aLen, aFk, aFT, Value.category, c_sh, c_f h1, f_sh hf, pa, pe, s1, k_isIn, st_sh, aSt, aMM, hz, hi, rf_3]
            · have e8' : I' 114 8 = nI T := by rw [hI 114 (by decide)]; exact e8
              have hi' : I' 114 (55 + 7 * t) = 0 := by rw [hI 114 (by decide)]; exact hi
              rw [e_173]; simp [s_173, aILoad, aRLoad, aLLoad, aIStore, aRStore, aPush, aBin, aBinL, aShL, aUn, aIf, aIc, aGet, aPut, aIald, aBald, aAald, aIast, aBast, aAast, aAlen, aCopy, aCallV, aCallC, aCallI, aRet, aCat, aMax, aMin, aDiv, aRem, aI2l, aL2i, aNul, aSwS, aSw, aInc, aDup, aDup2, aPop1, aIret, aAret, aVret, aLen, aFk, aFT, Value.category, m_sh, m_p, r_isThing, e8', hp, r_in, r_greatest, r_isThere (show t < 10 by omega), hz, hi', re_3]
          · refine Pair.now (v := I 114 (53 + 7 * t)) (I1 := aUpd I (f + 21 + t) 3 z) (I2 := aUpd (aUpd I (f + 21 + t) 3 z) 114 (53 + 7 * t) z) (P := P) (T := T) h h1 ?_ ?_ (KG.rf.upd (by omega) (by omega)) (RG.rf.upd) ?_
            · rw [e_71]; simp [s_71, aILoad, aRLoad, aLLoad, aIStore, aRStore, aPush, aBin, aBinL, aShL, aUn, aIf, aIc, aGet, aPut, aIald, aBald, aAald, aIast, aBast, aAast, aAlen, aCopy, aCallV, aCallC, aCallI, aRet, aCat, aMax, aMin, aDiv, aRem, aI2l, aL2i, aNul, aSwS, aSw, aInc, aDup, aDup2, aPop1, aIret, aAret, aVret, aLen, aFk, aFT, Value.category, c_sh, c_f h1, f_sh hf, pa, pe, s1, k_isIn, st_sh, aSt, aMM, hz, hi]
            · rw [e_173]; simp [s_173, aILoad, aRLoad, aLLoad, aIStore, aRStore, aPush, aBin, aBinL, aShL, aUn, aIf, aIc, aGet, aPut, aIald, aBald, aAald, aIast, aBast, aAast, aAlen, aCopy, aCallV, aCallC, aCallI, aRet, aCat, aMax, aMin, aDiv, aRem, aI2l, aL2i, aNul, aSwS, aSw, aInc, aDup, aDup2, aPop1, aIret, aAret, aVret, aLen, aFk, aFT, Value.category, m_sh, m_p, r_isThing, e114, e8, hp, r_in, r_greatest, r_isThere (show t < 10 by omega), hz, hi, ix1, ixw, r_change (show 53 + 7 * t < 454 by omega)]
            · simp only [aUpd_row, aUpd_ne (show 114 ≠ f + 21 + t by omega)]
              exact hA.setT (j := 3) ht (by omega) (by omega) (fun z => by omega) (fun q => (isIn' (a := 0) (b := 9) (by omega) (by omega)).mp hz |>.elim fun n q => ⟨n, q.2.1, q.2.2⟩) (fun z => by omega) (fun z => by omega)
        · refine Pair.ref 1 (-1000000001) h ?_ (fun I' hI => ?_)
          · rw [e_71]; simp [s_71, aILoad, aRLoad, aLLoad, aIStore, aRStore, aPush, aBin, aBinL, aShL, aUn, aIf, aIc, aGet, aPut, aIald, aBald, aAald, aIast, aBast, aAast, aAlen, aCopy, aCallV, aCallC, aCallI, aRet, aCat, aMax, aMin, aDiv, aRem, aI2l, aL2i, aNul, aSwS, aSw, aInc, aDup, aDup2, aPop1, aIret, aAret, aVret, aLen, aFk, aFT, Value.category, c_sh, c_f h1, f_sh hf, pa, pe, s1, k_isIn, st_sh, aSt, aMM, hz, rf_1]
          · have e8' : I' 114 8 = nI T := by rw [hI 114 (by decide)]; exact e8
            rw [e_173]; simp [s_173, aILoad, aRLoad, aLLoad, aIStore, aRStore, aPush, aBin, aBinL, aShL, aUn, aIf, aIc, aGet, aPut, aIald, aBald, aAald, aIast, aBast, aAast, aAlen, aCopy, aCallV, aCallC, aCallI, aRet, aCat, aMax, aMin, aDiv, aRem, aI2l, aL2i, aNul, aSwS, aSw, aInc, aDup, aDup2, aPop1, aIret, aAret, aVret, aLen, aFk, aFT, Value.category, m_sh, m_p, r_isThing, e8', hp, r_in, r_greatest, hz, re_1]
      · have ixw : nI (51 + 7 * t) + 3 = nI (54 + 7 * t) := by rw [show (3 : Int32) = nI 3 from rfl, nI_add] <;> (congr 1 <;> omega)
        by_cases hz : 0 ≤ z ∧ z ≤ 1
        · rcases (hA.2.2.2.1 t ht).2.2 with hi | ⟨hi, _⟩
          · refine Pair.ref 3 (-1000000003) h ?_ (fun I' hI => ?_)
            · rw [e_71]; simp [s_71, aILoad, aRLoad, aLLoad, aIStore, aRStore, aPush, aBin, aBinL, aShL, aUn, aIf, aIc, aGet, aPut, aIald, aBald, aAald, aIast, aBast, aAast, aAlen, aCopy, aCallV, aCallC, aCallI, aRet, aCat, aMax, aMin, aDiv, aRem, aI2l, aL2i, aNul, aSwS, aSw, aInc, aDup, aDup2, aPop1, aIret, aAret, aVret, aLen, aFk, aFT, Value.category, c_sh, c_f h1, f_sh hf, pa, pe, s1, k_isIn, st_sh, aSt, aMM, hz, hi, rf_3]
            · have e8' : I' 114 8 = nI T := by rw [hI 114 (by decide)]; exact e8
              have hi' : I' 114 (55 + 7 * t) = 0 := by rw [hI 114 (by decide)]; exact hi
              rw [e_173]; simp [s_173, aILoad, aRLoad, aLLoad, aIStore, aRStore, aPush, aBin, aBinL, aShL, aUn, aIf, aIc, aGet, aPut, aIald, aBald, aAald, aIast, aBast, aAast, aAlen, aCopy, aCallV, aCallC, aCallI, aRet, aCat, aMax, aMin, aDiv, aRem, aI2l, aL2i, aNul, aSwS, aSw, aInc, aDup, aDup2, aPop1, aIret, aAret, aVret, aLen, aFk, aFT, Value.category, m_sh, m_p, r_isThing, e8', hp, r_in, r_greatest, r_isThere (show t < 10 by omega), hz, hi', re_3]
          · refine Pair.now (v := I 114 (54 + 7 * t)) (I1 := aUpd I (f + 21 + t) 4 z) (I2 := aUpd (aUpd I (f + 21 + t) 4 z) 114 (54 + 7 * t) z) (P := P) (T := T) h h1 ?_ ?_ (KG.rf.upd (by omega) (by omega)) (RG.rf.upd) ?_
            · rw [e_71]; simp [s_71, aILoad, aRLoad, aLLoad, aIStore, aRStore, aPush, aBin, aBinL, aShL, aUn, aIf, aIc, aGet, aPut, aIald, aBald, aAald, aIast, aBast, aAast, aAlen, aCopy, aCallV, aCallC, aCallI, aRet, aCat, aMax, aMin, aDiv, aRem, aI2l, aL2i, aNul, aSwS, aSw, aInc, aDup, aDup2, aPop1, aIret, aAret, aVret, aLen, aFk, aFT, Value.category, c_sh, c_f h1, f_sh hf, pa, pe, s1, k_isIn, st_sh, aSt, aMM, hz, hi]
            · rw [e_173]; simp [s_173, aILoad, aRLoad, aLLoad, aIStore, aRStore, aPush, aBin, aBinL, aShL, aUn, aIf, aIc, aGet, aPut, aIald, aBald, aAald, aIast, aBast, aAast, aAlen, aCopy, aCallV, aCallC, aCallI, aRet, aCat, aMax, aMin, aDiv, aRem, aI2l, aL2i, aNul, aSwS, aSw, aInc, aDup, aDup2, aPop1, aIret, aAret, aVret, aLen, aFk, aFT, Value.category, m_sh, m_p, r_isThing, e114, e8, hp, r_in, r_greatest, r_isThere (show t < 10 by omega), hz, hi, ix1, ixw, r_change (show 54 + 7 * t < 454 by omega)]
            · simp only [aUpd_row, aUpd_ne (show 114 ≠ f + 21 + t by omega)]
              exact hA.setT (j := 4) ht (by omega) (by omega) (fun z => by omega) (fun q => by omega) (fun z => by omega) (fun z => by omega)
        · refine Pair.ref 1 (-1000000001) h ?_ (fun I' hI => ?_)
          · rw [e_71]; simp [s_71, aILoad, aRLoad, aLLoad, aIStore, aRStore, aPush, aBin, aBinL, aShL, aUn, aIf, aIc, aGet, aPut, aIald, aBald, aAald, aIast, aBast, aAast, aAlen, aCopy, aCallV, aCallC, aCallI, aRet, aCat, aMax, aMin, aDiv, aRem, aI2l, aL2i, aNul, aSwS, aSw, aInc, aDup, aDup2, aPop1, aIret, aAret, aVret, aLen, aFk, aFT, Value.category, c_sh, c_f h1, f_sh hf, pa, pe, s1, k_isIn, st_sh, aSt, aMM, hz, rf_1]
          · have e8' : I' 114 8 = nI T := by rw [hI 114 (by decide)]; exact e8
            rw [e_173]; simp [s_173, aILoad, aRLoad, aLLoad, aIStore, aRStore, aPush, aBin, aBinL, aShL, aUn, aIf, aIc, aGet, aPut, aIald, aBald, aAald, aIast, aBast, aAast, aAlen, aCopy, aCallV, aCallC, aCallI, aRet, aCat, aMax, aMin, aDiv, aRem, aI2l, aL2i, aNul, aSwS, aSw, aInc, aDup, aDup2, aPop1, aIret, aAret, aVret, aLen, aFk, aFT, Value.category, m_sh, m_p, r_isThing, e8', hp, r_in, r_greatest, hz, re_1]
    · refine Pair.ref 1 (-1000000001) h ?_ (fun I' hI => ?_)
      · rw [e_71]; simp [s_71, aILoad, aRLoad, aLLoad, aIStore, aRStore, aPush, aBin, aBinL, aShL, aUn, aIf, aIc, aGet, aPut, aIald, aBald, aAald, aIast, aBast, aAast, aAlen, aCopy, aCallV, aCallC, aCallI, aRet, aCat, aMax, aMin, aDiv, aRem, aI2l, aL2i, aNul, aSwS, aSw, aInc, aDup, aDup2, aPop1, aIret, aAret, aVret, aLen, aFk, aFT, Value.category, c_sh, c_f h1, f_sh hf, pa, pe, s1, k_isIn, st_sh, aSt, aMM, hw, rf_1]
      · have e8' : I' 114 8 = nI T := by rw [hI 114 (by decide)]; exact e8
        rw [e_173]; simp [s_173, aILoad, aRLoad, aLLoad, aIStore, aRStore, aPush, aBin, aBinL, aShL, aUn, aIf, aIc, aGet, aPut, aIald, aBald, aAald, aIast, aBast, aAast, aAlen, aCopy, aCallV, aCallC, aCallI, aRet, aCat, aMax, aMin, aDiv, aRem, aI2l, aL2i, aNul, aSwS, aSw, aInc, aDup, aDup2, aPop1, aIret, aAret, aVret, aLen, aFk, aFT, Value.category, m_sh, m_p, r_isThing, e8', hp, r_in, hw, re_1]
  · have pa := k_thingNo (d := d + 17) (x := x) (y := y) hf hA.1 hp
    refine Pair.ref 1 (-1000000001) h ?_ (fun I' hI => ?_)
    · rw [e_71]; simp [s_71, aILoad, aRLoad, aLLoad, aIStore, aRStore, aPush, aBin, aBinL, aShL, aUn, aIf, aIc, aGet, aPut, aIald, aBald, aAald, aIast, aBast, aAast, aAlen, aCopy, aCallV, aCallC, aCallI, aRet, aCat, aMax, aMin, aDiv, aRem, aI2l, aL2i, aNul, aSwS, aSw, aInc, aDup, aDup2, aPop1, aIret, aAret, aVret, aLen, aFk, aFT, Value.category, c_sh, c_f h1, f_sh hf, pa, rf_1]
    · have e8' : I' 114 8 = nI T := by rw [hI 114 (by decide)]; exact e8
      rw [e_173]; simp [s_173, aILoad, aRLoad, aLLoad, aIStore, aRStore, aPush, aBin, aBinL, aShL, aUn, aIf, aIc, aGet, aPut, aIald, aBald, aAald, aIast, aBast, aAast, aAlen, aCopy, aCallV, aCallC, aCallI, aRet, aCat, aMax, aMin, aDiv, aRem, aI2l, aL2i, aNul, aSwS, aSw, aInc, aDup, aDup2, aPop1, aIret, aAret, aVret, aLen, aFk, aFT, Value.category, m_sh, m_p, r_isThing, e8', hp, re_1]
theorem pair_anew (v : Int32) : Pair 72 174 [.int v] := by
  intro d I x y h
  obtain ⟨f, P, T, h1, hf, hA⟩ := h.f
  have hP := hA.1.1
  have e8 := hA.1.fi.2.2.2.1
  by_cases hp : 0 ≤ v ∧ v ≤ nI T - 1
  · obtain ⟨t, ht, rfl⟩ := (isIx (by omega)).mp hp
    have pa := k_thingAt (d := d + 17) (x := x) (y := y) hf hA.1 ht
    have pe := hA.1.th ht
    have s1 := f_th hf (show t < 10 by omega)
    rcases (hA.2.2.2.1 t ht).2.2 with hi | ⟨hi, _⟩
    · have kb : aCall aMt (d + 19) 55 [.ref (f + 21 + t)] (HH I x y) = some (none, HH (aUpd (aUpd (aUpd I (f + 21 + t) 5 1) (f + 21 + t) 6 (-1)) (f + 21 + t) 3 0) x y) := by
        rw [e_55]; simp [s_55, aILoad, aRLoad, aLLoad, aIStore, aRStore, aPush, aBin, aBinL, aShL, aUn, aIf, aIc, aGet, aPut, aIald, aBald, aAald, aIast, aBast, aAast, aAlen, aCopy, aCallV, aCallC, aCallI, aRet, aCat, aMax, aMin, aDiv, aRem, aI2l, aL2i, aNul, aSwS, aSw, aInc, aDup, aDup2, aPop1, aIret, aAret, aVret, aLen, aFk, aFT, Value.category, s1]
      have z3 := (hA.setT (j := 6) (k := 56 + 7 * t) (v := -1) ht (by omega) (by omega) (fun z => by omega) (fun z => by omega) (fun z => by omega) (fun _ => Or.inr rfl))
      have g : relA f (aUpd (aUpd (aUpd I (f + 21 + t) 6 (-1)) (f + 21 + t) 5 1) (f + 21 + t) 3 0) (upd (upd (upd (I 114) (56 + 7 * t) (-1)) (55 + 7 * t) 1) (53 + 7 * t) 0) P T :=
        (z3.setT (j := 5) (k := 55 + 7 * t) (v := 1) ht (by omega) (by omega) (fun z => by omega) (fun z => by omega) (fun _ => Or.inr ⟨rfl, upd_eq⟩) (fun z => by omega)).setT (j := 3) (k := 53 + 7 * t) (v := 0) ht (by omega) (by omega) (fun z => by omega) (fun _ => ⟨0, by omega, rfl⟩) (fun z => by omega) (fun z => by omega)
      have ec : aUpd (aUpd I (f + 21 + t) 6 (-1)) (f + 21 + t) 5 1 = aUpd (aUpd I (f + 21 + t) 5 1) (f + 21 + t) 6 (-1) := by
        funext r
        by_cases e : r = f + 21 + t
        · rw [e, aUpd_row, aUpd_row, aUpd_row, aUpd_row]; exact upd_comm (by omega)
        · simp only [aUpd_ne e]
      rw [ec, upd_comm (f := I 114) (show 56 + 7 * t ≠ 55 + 7 * t by omega)] at g
      have kg : KG f I (aUpd (aUpd (aUpd I (f + 21 + t) 5 1) (f + 21 + t) 6 (-1)) (f + 21 + t) 3 0) := ((KG.rf.upd (by omega) (by omega)).upd (by omega) (by omega)).upd (by omega) (by omega)
      have j114 : (aUpd (aUpd (aUpd I (f + 21 + t) 5 1) (f + 21 + t) 6 (-1)) (f + 21 + t) 3 0) 114 = I 114 := by simp only [aUpd_ne (show 114 ≠ f + 21 + t by omega)]
      generalize hJ : aUpd (aUpd (aUpd I (f + 21 + t) 5 1) (f + 21 + t) 6 (-1)) (f + 21 + t) 3 0 = J at *
      generalize hσ : upd (upd (upd (I 114) (55 + 7 * t) 1) (56 + 7 * t) (-1)) (53 + 7 * t) 0 = σ at *
      have ki := k_inside (d := d + 18) (x := x) (y := y) hf g.1 g.2.2.th
      have jσ : aUpd (aUpd (aUpd J 114 (55 + 7 * t) 1) 114 (56 + 7 * t) (-1)) 114 (53 + 7 * t) 0 114 = σ := by rw [← hσ]; simp only [aUpd_row, j114]
      have rh := r_howMany (d := d + 16) (x := x) (y := y) (I := aUpd (aUpd (aUpd J 114 (55 + 7 * t) 1) 114 (56 + 7 * t) (-1)) 114 (53 + 7 * t) 0) hP.2 (by rw [jσ]; exact g.1.fi.2.2.2.1)
      rw [jσ] at rh
      refine Pair.now (v := nI (cnt (sTh σ) T)) (I1 := J) (I2 := aUpd (aUpd (aUpd J 114 (55 + 7 * t) 1) 114 (56 + 7 * t) (-1)) 114 (53 + 7 * t) 0) (P := P) (T := T) h h1 ?_ ?_ kg (((RG.rf.upd).upd).upd) (by rw [jσ]; exact g.rows fun r _ _ => by rfl)
      · rw [e_72]; simp [s_72, aILoad, aRLoad, aLLoad, aIStore, aRStore, aPush, aBin, aBinL, aShL, aUn, aIf, aIc, aGet, aPut, aIald, aBald, aAald, aIast, aBast, aAast, aAlen, aCopy, aCallV, aCallC, aCallI, aRet, aCat, aMax, aMin, aDiv, aRem, aI2l, aL2i, aNul, aSwS, aSw, aInc, aDup, aDup2, aPop1, aIret, aAret, aVret, aLen, aFk, aFT, Value.category, c_sh, c_f h1, f_sh hf, pa, pe, s1, hi, kb, ki]
      · have e8' : J 114 8 = nI T := by rw [j114]; exact e8
        have hi' : J 114 (55 + 7 * t) = 0 := by rw [j114]; exact hi
        rw [e_174]; simp [s_174, aILoad, aRLoad, aLLoad, aIStore, aRStore, aPush, aBin, aBinL, aShL, aUn, aIf, aIc, aGet, aPut, aIald, aBald, aAald, aIast, aBast, aAast, aAlen, aCopy, aCallV, aCallC, aCallI, aRet, aCat, aMax, aMin, aDiv, aRem, aI2l, aL2i, aNul, aSwS, aSw, aInc, aDup, aDup2, aPop1, aIret, aAret, aVret, aLen, aFk, aFT, Value.category, m_sh, m_p, r_isThing, e8', hp, r_isThere (show t < 10 by omega), hi', r_lays2 (show t < 10 by omega), show 50 + 7 * t + 5 = 55 + 7 * t by omega, show 50 + 7 * t + 6 = 56 + 7 * t by omega, show 50 + 7 * t + 3 = 53 + 7 * t by omega, rh]
    · refine Pair.ref 3 (-1000000003) h ?_ (fun I' hI => ?_)
      · rw [e_72]; simp [s_72, aILoad, aRLoad, aLLoad, aIStore, aRStore, aPush, aBin, aBinL, aShL, aUn, aIf, aIc, aGet, aPut, aIald, aBald, aAald, aIast, aBast, aAast, aAlen, aCopy, aCallV, aCallC, aCallI, aRet, aCat, aMax, aMin, aDiv, aRem, aI2l, aL2i, aNul, aSwS, aSw, aInc, aDup, aDup2, aPop1, aIret, aAret, aVret, aLen, aFk, aFT, Value.category, c_sh, c_f h1, f_sh hf, pa, pe, s1, hi, rf_3]
      · have e8' : I' 114 8 = nI T := by rw [hI 114 (by decide)]; exact e8
        have hi' : I' 114 (55 + 7 * t) = 1 := by rw [hI 114 (by decide)]; exact hi
        rw [e_174]; simp [s_174, aILoad, aRLoad, aLLoad, aIStore, aRStore, aPush, aBin, aBinL, aShL, aUn, aIf, aIc, aGet, aPut, aIald, aBald, aAald, aIast, aBast, aAast, aAlen, aCopy, aCallV, aCallC, aCallI, aRet, aCat, aMax, aMin, aDiv, aRem, aI2l, aL2i, aNul, aSwS, aSw, aInc, aDup, aDup2, aPop1, aIret, aAret, aVret, aLen, aFk, aFT, Value.category, m_sh, m_p, r_isThing, e8', hp, r_isThere (show t < 10 by omega), hi', re_3]
  · have pa := k_thingNo (d := d + 17) (x := x) (y := y) hf hA.1 hp
    refine Pair.ref 1 (-1000000001) h ?_ (fun I' hI => ?_)
    · rw [e_72]; simp [s_72, aILoad, aRLoad, aLLoad, aIStore, aRStore, aPush, aBin, aBinL, aShL, aUn, aIf, aIc, aGet, aPut, aIald, aBald, aAald, aIast, aBast, aAast, aAlen, aCopy, aCallV, aCallC, aCallI, aRet, aCat, aMax, aMin, aDiv, aRem, aI2l, aL2i, aNul, aSwS, aSw, aInc, aDup, aDup2, aPop1, aIret, aAret, aVret, aLen, aFk, aFT, Value.category, c_sh, c_f h1, f_sh hf, pa, rf_1]
    · have e8' : I' 114 8 = nI T := by rw [hI 114 (by decide)]; exact e8
      rw [e_174]; simp [s_174, aILoad, aRLoad, aLLoad, aIStore, aRStore, aPush, aBin, aBinL, aShL, aUn, aIf, aIc, aGet, aPut, aIald, aBald, aAald, aIast, aBast, aAast, aAlen, aCopy, aCallV, aCallC, aCallI, aRet, aCat, aMax, aMin, aDiv, aRem, aI2l, aL2i, aNul, aSwS, aSw, aInc, aDup, aDup2, aPop1, aIret, aAret, aVret, aLen, aFk, aFT, Value.category, m_sh, m_p, r_isThing, e8', hp, re_1]
end PAIR6
