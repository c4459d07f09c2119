/-! the calls in pairs: law, urge, guard, comes -/
section PAIR8
variable {d : Nat} {I : Nat → Nat → Int32} {x y : Option Nat}
theorem pair_law (u a b c : Int32) : Pair 76 175 [.int u, .int a, .int b, .int c] := by
  intro d I x y h
  obtain ⟨f, P, T, h1, hf, hA⟩ := h.f
  by_cases hu : 0 ≤ u ∧ u ≤ 1
  · rcases in_01 hu with rfl | rfl
    · obtain ⟨I1, k1, k2⟩ := k_appeal (d := d + 16) (x := x) (y := y) (a := a) (b := b) (c := c) hf hA.1 hA.2.2.ok
      have e114 : I1 114 = I 114 := k2 114 (by omega) (by omega)
      obtain ⟨I2, r1, r2⟩ := r_appT (d := d + 16) (x := x) (y := y) (I := I1) (l := a) (o := b) (a := c) (by rw [e114]; exact hA.2.2.ok.1)
      rw [e114] at r1
      refine Pair.scr (v := sAppT (I 114) a b c) h h1 ?_ ?_ k2 r2
      · rw [e_76]; simp [s_76, aILoad, aRLoad, aLLoad, aIStore, aRStore, aPush, aBin, aBinL, aShL, aUn, aIf, aIc, aGet, aPut, aIald, aBald, aAald, aIast, aBast, aAast, aAlen, aCopy, aCallV, aCallC, aCallI, aRet, aCat, aMax, aMin, aDiv, aRem, aI2l, aL2i, aNul, aSwS, aSw, aInc, aDup, aDup2, aPop1, aIret, aAret, aVret, aLen, aFk, aFT, Value.category, c_sh, c_f h1, f_sh hf, k_isUse, k_lawOf0 hf, k1]
      · rw [e_175]; simp [s_175, aILoad, aRLoad, aLLoad, aIStore, aRStore, aPush, aBin, aBinL, aShL, aUn, aIf, aIc, aGet, aPut, aIald, aBald, aAald, aIast, aBast, aAast, aAlen, aCopy, aCallV, aCallC, aCallI, aRet, aCat, aMax, aMin, aDiv, aRem, aI2l, aL2i, aNul, aSwS, aSw, aInc, aDup, aDup2, aPop1, aIret, aAret, aVret, aLen, aFk, aFT, Value.category, m_sh, m_p, r_in, r1]
    · obtain ⟨I1, k1, k2⟩ := k_guard (d := d + 16) (x := x) (y := y) (a := a) (b := b) (c := c) hf hA.1 hA.2.2.ok
      have e114 : I1 114 = I 114 := k2 114 (by omega) (by omega)
      obtain ⟨I2, r1, r2⟩ := r_guaT (d := d + 16) (x := x) (y := y) (I := I1) (l := a) (s := b) (o := c) (by rw [e114]; exact hA.2.2.ok.2)
      rw [e114] at r1
      refine Pair.scr (v := sGuaT (I 114) a b c) h h1 ?_ ?_ k2 r2
      · rw [e_76]; simp [s_76, aILoad, aRLoad, aLLoad, aIStore, aRStore, aPush, aBin, aBinL, aShL, aUn, aIf, aIc, aGet, aPut, aIald, aBald, aAald, aIast, aBast, aAast, aAlen, aCopy, aCallV, aCallC, aCallI, aRet, aCat, aMax, aMin, aDiv, aRem, aI2l, aL2i, aNul, aSwS, aSw, aInc, aDup, aDup2, aPop1, aIret, aAret, aVret, aLen, aFk, aFT, Value.category, c_sh, c_f h1, f_sh hf, k_isUse, k_lawOf1 hf, k1]
      · rw [e_175]; simp [s_175, aILoad, aRLoad, aLLoad, aIStore, aRStore, aPush, aBin, aBinL, aShL, aUn, aIf, aIc, aGet, aPut, aIald, aBald, aAald, aIast, aBast, aAast, aAlen, aCopy, aCallV, aCallC, aCallI, aRet, aCat, aMax, aMin, aDiv, aRem, aI2l, aL2i, aNul, aSwS, aSw, aInc, aDup, aDup2, aPop1, aIret, aAret, aVret, aLen, aFk, aFT, Value.category, m_sh, m_p, r_in, r1]
  · refine Pair.ref 1 (-1000000001) h ?_ (fun I' hI => ?_)
    · rw [e_76]; simp [s_76, aILoad, aRLoad, aLLoad, aIStore, aRStore, aPush, aBin, aBinL, aShL, aUn, aIf, aIc, aGet, aPut, aIald, aBald, aAald, aIast, aBast, aAast, aAlen, aCopy, aCallV, aCallC, aCallI, aRet, aCat, aMax, aMin, aDiv, aRem, aI2l, aL2i, aNul, aSwS, aSw, aInc, aDup, aDup2, aPop1, aIret, aAret, aVret, aLen, aFk, aFT, Value.category, c_sh, k_isUse, hu, rf_1]
    · rw [e_175]; simp [s_175, aILoad, aRLoad, aLLoad, aIStore, aRStore, aPush, aBin, aBinL, aShL, aUn, aIf, aIc, aGet, aPut, aIald, aBald, aAald, aIast, aBast, aAast, aAlen, aCopy, aCallV, aCallC, aCallI, aRet, aCat, aMax, aMin, aDiv, aRem, aI2l, aL2i, aNul, aSwS, aSw, aInc, aDup, aDup2, aPop1, aIret, aAret, aVret, aLen, aFk, aFT, Value.category, m_sh, m_p, r_in, hu, re_1]
theorem pair_urge (v w : Int32) : Pair 77 176 [.int v, .int w] := by
  intro d I x y h
  obtain ⟨f, P, T, h1, hf, hA⟩ := h.f
  have hP := hA.1.1
  have e7 := hA.1.fi.2.2.1
  have e8 := hA.1.fi.2.2.2.1
  by_cases ht : 0 ≤ w ∧ w ≤ nI T - 1
  · obtain ⟨t, htT, rfl⟩ := (isIx (by omega)).mp ht
    have ta := k_thingAt (d := d + 17) (x := x) (y := y) hf hA.1 htT
    by_cases hp : 0 ≤ v ∧ v ≤ nI P - 1
    · obtain ⟨p, hpP, rfl⟩ := (isIx (by omega)).mp hp
      have pa := k_personAt (d := d + 17) (x := x) (y := y) hf hA.1 hpP
      obtain ⟨I1, k1, k2⟩ := k_appealOf (d := d + 15) (x := x) (y := y) hf hA.1 htT hA.2.2.ok
      have g1 := hA.1.kf k2
      have ku := k_urge (d := d + 17) (x := x) (y := y) (ap := sApp (I 114) t) hf g1 hpP htT
      have e114 : I1 114 = I 114 := k2 114 (by omega) (by omega)
      obtain ⟨I2, r1, r2⟩ := r_urgeOf (d := d + 13) (x := x) (y := y) (I := I1) (p := p) (t := t) (by omega) (by omega) (by rw [e114]; exact hA.2.2.ok.1)
      rw [e114] at r1
      refine Pair.scr (v := sUrge (I 114) p t) h h1 ?_ ?_ k2 r2
      · rw [e_77]; simp [s_77, aILoad, aRLoad, aLLoad, aIStore, aRStore, aPush, aBin, aBinL, aShL, aUn, aIf, aIc, aGet, aPut, aIald, aBald, aAald, aIast, aBast, aAast, aAlen, aCopy, aCallV, aCallC, aCallI, aRet, aCat, aMax, aMin, aDiv, aRem, aI2l, aL2i, aNul, aSwS, aSw, aInc, aDup, aDup2, aPop1, aIret, aAret, aVret, aLen, aFk, aFT, Value.category, c_sh, c_f h1, f_sh hf, f_pe hf (show p < 8 by omega), f_th hf (show t < 10 by omega), pa, ta, k1, ku, sUrge]
      · rw [e_176]; simp [s_176, aILoad, aRLoad, aLLoad, aIStore, aRStore, aPush, aBin, aBinL, aShL, aUn, aIf, aIc, aGet, aPut, aIald, aBald, aAald, aIast, aBast, aAast, aAlen, aCopy, aCallV, aCallC, aCallI, aRet, aCat, aMax, aMin, aDiv, aRem, aI2l, aL2i, aNul, aSwS, aSw, aInc, aDup, aDup2, aPop1, aIret, aAret, aVret, aLen, aFk, aFT, Value.category, m_sh, m_p, r_isPerson, r_isThing, e114, e7, e8, hp, ht, r1]
    · have pa := k_personNo (d := d + 17) (x := x) (y := y) hf hA.1 hp
      refine Pair.ref 1 (-1000000001) h ?_ (fun I' hI => ?_)
      · rw [e_77]; simp [s_77, aILoad, aRLoad, aLLoad, aIStore, aRStore, aPush, aBin, aBinL, aShL, aUn, aIf, aIc, aGet, aPut, aIald, aBald, aAald, aIast, aBast, aAast, aAlen, aCopy, aCallV, aCallC, aCallI, aRet, aCat, aMax, aMin, aDiv, aRem, aI2l, aL2i, aNul, aSwS, aSw, aInc, aDup, aDup2, aPop1, aIret, aAret, aVret, aLen, aFk, aFT, Value.category, c_sh, c_f h1, f_sh hf, pa, ta, rf_1]
      · have e7' : I' 114 7 = nI P := by rw [hI 114 (by decide)]; exact e7
        rw [e_176]; simp [s_176, aILoad, aRLoad, aLLoad, aIStore, aRStore, aPush, aBin, aBinL, aShL, aUn, aIf, aIc, aGet, aPut, aIald, aBald, aAald, aIast, aBast, aAast, aAlen, aCopy, aCallV, aCallC, aCallI, aRet, aCat, aMax, aMin, aDiv, aRem, aI2l, aL2i, aNul, aSwS, aSw, aInc, aDup, aDup2, aPop1, aIret, aAret, aVret, aLen, aFk, aFT, Value.category, m_sh, m_p, r_isPerson, e7', hp, re_1]
  · have ta := k_thingNo (d := d + 17) (x := x) (y := y) hf hA.1 ht
    by_cases hp : 0 ≤ v ∧ v ≤ nI P - 1
    · obtain ⟨p, hpP, rfl⟩ := (isIx (by omega)).mp hp
      have pa := k_personAt (d := d + 17) (x := x) (y := y) hf hA.1 hpP
      refine Pair.ref 1 (-1000000001) h ?_ (fun I' hI => ?_)
      · rw [e_77]; simp [s_77, aILoad, aRLoad, aLLoad, aIStore, aRStore, aPush, aBin, aBinL, aShL, aUn, aIf, aIc, aGet, aPut, aIald, aBald, aAald, aIast, aBast, aAast, aAlen, aCopy, aCallV, aCallC, aCallI, aRet, aCat, aMax, aMin, aDiv, aRem, aI2l, aL2i, aNul, aSwS, aSw, aInc, aDup, aDup2, aPop1, aIret, aAret, aVret, aLen, aFk, aFT, Value.category, c_sh, c_f h1, f_sh hf, pa, ta, rf_1]
      · have e7' : I' 114 7 = nI P := by rw [hI 114 (by decide)]; exact e7
        have e8' : I' 114 8 = nI T := by rw [hI 114 (by decide)]; exact e8
        rw [e_176]; simp [s_176, aILoad, aRLoad, aLLoad, aIStore, aRStore, aPush, aBin, aBinL, aShL, aUn, aIf, aIc, aGet, aPut, aIald, aBald, aAald, aIast, aBast, aAast, aAlen, aCopy, aCallV, aCallC, aCallI, aRet, aCat, aMax, aMin, aDiv, aRem, aI2l, aL2i, aNul, aSwS, aSw, aInc, aDup, aDup2, aPop1, aIret, aAret, aVret, aLen, aFk, aFT, Value.category, m_sh, m_p, r_isPerson, r_isThing, e7', e8', hp, ht, re_1]
    · have pa := k_personNo (d := d + 17) (x := x) (y := y) hf hA.1 hp
      refine Pair.ref 1 (-1000000001) h ?_ (fun I' hI => ?_)
      · rw [e_77]; simp [s_77, aILoad, aRLoad, aLLoad, aIStore, aRStore, aPush, aBin, aBinL, aShL, aUn, aIf, aIc, aGet, aPut, aIald, aBald, aAald, aIast, aBast, aAast, aAlen, aCopy, aCallV, aCallC, aCallI, aRet, aCat, aMax, aMin, aDiv, aRem, aI2l, aL2i, aNul, aSwS, aSw, aInc, aDup, aDup2, aPop1, aIret, aAret, aVret, aLen, aFk, aFT, Value.category, c_sh, c_f h1, f_sh hf, pa, ta, rf_1]
      · have e7' : I' 114 7 = nI P := by rw [hI 114 (by decide)]; exact e7
        rw [e_176]; simp [s_176, aILoad, aRLoad, aLLoad, aIStore, aRStore, aPush, aBin, aBinL, aShL, aUn, aIf, aIc, aGet, aPut, aIald, aBald, aAald, aIast, aBast, aAast, aAlen, aCopy, aCallV, aCallC, aCallI, aRet, aCat, aMax, aMin, aDiv, aRem, aI2l, aL2i, aNul, aSwS, aSw, aInc, aDup, aDup2, aPop1, aIret, aAret, aVret, aLen, aFk, aFT, Value.category, m_sh, m_p, r_isPerson, e7', hp, re_1]
theorem pair_guard (v s : Int32) : Pair 78 177 [.int v, .int s] := by
  intro d I x y h
  obtain ⟨f, P, T, h1, hf, hA⟩ := h.f
  have hP := hA.1.1
  have e8 := hA.1.fi.2.2.2.1
  by_cases ht : 0 ≤ v ∧ v ≤ nI T - 1
  · obtain ⟨t, htT, rfl⟩ := (isIx (by omega)).mp ht
    have ta := k_thingAt (d := d + 17) (x := x) (y := y) hf hA.1 htT
    by_cases hs : 0 ≤ s ∧ s ≤ 1
    · obtain ⟨I1, k1, k2⟩ := k_guard (d := d + 16) (x := x) (y := y) (a := I 114 (51 + 7 * t)) (b := s) (c := I 114 (52 + 7 * t)) hf hA.1 hA.2.2.ok
      have e114 : I1 114 = I 114 := k2 114 (by omega) (by omega)
      obtain ⟨I2, r1, r2⟩ := r_guardOf (d := d + 15) (x := x) (y := y) (I := I1) (t := t) (s := s) (by omega) (by rw [e114]; exact hA.2.2.ok.2)
      rw [e114] at r1
      refine Pair.scr (v := sGua (I 114) t s) h h1 ?_ ?_ k2 r2
      · rw [e_78]; simp [s_78, aILoad, aRLoad, aLLoad, aIStore, aRStore, aPush, aBin, aBinL, aShL, aUn, aIf, aIc, aGet, aPut, aIald, aBald, aAald, aIast, aBast, aAast, aAlen, aCopy, aCallV, aCallC, aCallI, aRet, aCat, aMax, aMin, aDiv, aRem, aI2l, aL2i, aNul, aSwS, aSw, aInc, aDup, aDup2, aPop1, aIret, aAret, aVret, aLen, aFk, aFT, Value.category, c_sh, c_f h1, f_sh hf, f_p hf, f_th hf (show t < 10 by omega), hA.1.th htT, ta, k_isIn, hs, k1, sGua]
      · rw [e_177]; simp [s_177, aILoad, aRLoad, aLLoad, aIStore, aRStore, aPush, aBin, aBinL, aShL, aUn, aIf, aIc, aGet, aPut, aIald, aBald, aAald, aIast, aBast, aAast, aAlen, aCopy, aCallV, aCallC, aCallI, aRet, aCat, aMax, aMin, aDiv, aRem, aI2l, aL2i, aNul, aSwS, aSw, aInc, aDup, aDup2, aPop1, aIret, aAret, aVret, aLen, aFk, aFT, Value.category, m_sh, m_p, r_isThing, e114, e8, ht, r_in, hs, r1]
    · refine Pair.ref 1 (-1000000001) h ?_ (fun I' hI => ?_)
      · rw [e_78]; simp [s_78, aILoad, aRLoad, aLLoad, aIStore, aRStore, aPush, aBin, aBinL, aShL, aUn, aIf, aIc, aGet, aPut, aIald, aBald, aAald, aIast, aBast, aAast, aAlen, aCopy, aCallV, aCallC, aCallI, aRet, aCat, aMax, aMin, aDiv, aRem, aI2l, aL2i, aNul, aSwS, aSw, aInc, aDup, aDup2, aPop1, aIret, aAret, aVret, aLen, aFk, aFT, Value.category, c_sh, c_f h1, f_sh hf, ta, k_isIn, hs, rf_1]
      · have e8' : I' 114 8 = nI T := by rw [hI 114 (by decide)]; exact e8
        rw [e_177]; simp [s_177, aILoad, aRLoad, aLLoad, aIStore, aRStore, aPush, aBin, aBinL, aShL, aUn, aIf, aIc, aGet, aPut, aIald, aBald, aAald, aIast, aBast, aAast, aAlen, aCopy, aCallV, aCallC, aCallI, aRet, aCat, aMax, aMin, aDiv, aRem, aI2l, aL2i, aNul, aSwS, aSw, aInc, aDup, aDup2, aPop1, aIret, aAret, aVret, aLen, aFk, aFT, Value.category, m_sh, m_p, r_isThing, e8', ht, r_in, hs, re_1]
  · have ta := k_thingNo (d := d + 17) (x := x) (y := y) hf hA.1 ht
    refine Pair.ref 1 (-1000000001) h ?_ (fun I' hI => ?_)
    · rw [e_78]; simp [s_78, aILoad, aRLoad, aLLoad, aIStore, aRStore, aPush, aBin, aBinL, aShL, aUn, aIf, aIc, aGet, aPut, aIald, aBald, aAald, aIast, aBast, aAast, aAlen, aCopy, aCallV, aCallC, aCallI, aRet, aCat, aMax, aMin, aDiv, aRem, aI2l, aL2i, aNul, aSwS, aSw, aInc, aDup, aDup2, aPop1, aIret, aAret, aVret, aLen, aFk, aFT, Value.category, c_sh, c_f h1, f_sh hf, ta, rf_1]
    · have e8' : I' 114 8 = nI T := by rw [hI 114 (by decide)]; exact e8
      rw [e_177]; simp [s_177, aILoad, aRLoad, aLLoad, aIStore, aRStore, aPush, aBin, aBinL, aShL, aUn, aIf, aIc, aGet, aPut, aIald, aBald, aAald, aIast, aBast, aAast, aAlen, aCopy, aCallV, aCallC, aCallI, aRet, aCat, aMax, aMin, aDiv, aRem, aI2l, aL2i, aNul, aSwS, aSw, aInc, aDup, aDup2, aPop1, aIret, aAret, aVret, aLen, aFk, aFT, Value.category, m_sh, m_p, r_isThing, e8', ht, re_1]
end PAIR8
