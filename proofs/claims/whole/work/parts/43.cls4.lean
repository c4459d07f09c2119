/-! the class: URGE, what one WANTS -/
section CLS4
variable {d f P T : Nat} {I : Nat → Nat → Int32} {σ : Nat → Int32} {x y : Option Nat}
theorem k_urge {p t : Nat} {ap : Int32} (hf : isF f) (h : relF f I σ P T) (hp : p < P) (ht : t < T) : aCall aMt (d + 2) 34 [.ref (f + 13 + p), .ref (f + 21 + t), .int ap] (HH I x y) = some (some (.int (sUrg (σ (10 + 5 * p)) (σ (11 + 5 * p)) (σ (12 + 5 * p)) (σ (13 + 5 * p)) (σ (14 + 5 * p)) (σ (50 + 7 * t)) (σ (53 + 7 * t)) ap (decide (σ (50 + 7 * t) = nI p)))), HH I x y) := by
  have hP := h.1
  have s1 := f_th hf (show t < 10 by omega)
  have s2 := f_pe hf (show p < 8 by omega)
  have h1 := h.pe hp
  have h2 := h.th ht
  have ho := k_owns (d := d) (x := x) (y := y) hf h hp ht
  rw [e_34]
  by_cases own : σ (50 + 7 * t) = nI p
  · simp only [own, if_true] at ho
    by_cases k1 : σ (10 + 5 * p) = 1
    · simp [s_34, aILoad, aRLoad, aLLoad, aIStore, aRStore, aPush, aBin, aBinL, aShL, aUn, aIf, aIc, aGet, aPut, aIald, aBald, aAald, aIast, aBast, aAast, aAlen, aCopy, aCallV, aCallC, aCallI, aRet, aCat, aMax, aMin, aDiv, aRem, aI2l, aL2i, aNul, aSwS, aSw, aInc, aDup, aDup2, aPop1, aIret, aAret, aVret, aLen, aFk, aFT, Value.category, s1, s2, h1, h2, ho, own, k1, sUrg]
    by_cases k2 : σ (10 + 5 * p) = 2
    · simp [s_34, aILoad, aRLoad, aLLoad, aIStore, aRStore, aPush, aBin, aBinL, aShL, aUn, aIf, aIc, aGet, aPut, aIald, aBald, aAald, aIast, aBast, aAast, aAlen, aCopy, aCallV, aCallC, aCallI, aRet, aCat, aMax, aMin, aDiv, aRem, aI2l, aL2i, aNul, aSwS, aSw, aInc, aDup, aDup2, aPop1, aIret, aAret, aVret, aLen, aFk, aFT, Value.category, s1, s2, h1, h2, ho, own, k2, sUrg]
    by_cases k3 : σ (10 + 5 * p) = 3
    · simp [s_34, aILoad, aRLoad, aLLoad, aIStore, aRStore, aPush, aBin, aBinL, aShL, aUn, aIf, aIc, aGet, aPut, aIald, aBald, aAald, aIast, aBast, aAast, aAlen, aCopy, aCallV, aCallC, aCallI, aRet, aCat, aMax, aMin, aDiv, aRem, aI2l, aL2i, aNul, aSwS, aSw, aInc, aDup, aDup2, aPop1, aIret, aAret, aVret, aLen, aFk, aFT, Value.category, s1, s2, h1, h2, ho, own, k3, sUrg]
    by_cases k4 : σ (10 + 5 * p) = 4
    · simp [s_34, aILoad, aRLoad, aLLoad, aIStore, aRStore, aPush, aBin, aBinL, aShL, aUn, aIf, aIc, aGet, aPut, aIald, aBald, aAald, aIast, aBast, aAast, aAlen, aCopy, aCallV, aCallC, aCallI, aRet, aCat, aMax, aMin, aDiv, aRem, aI2l, aL2i, aNul, aSwS, aSw, aInc, aDup, aDup2, aPop1, aIret, aAret, aVret, aLen, aFk, aFT, Value.category, s1, s2, h1, h2, ho, own, k4, sUrg]
    by_cases k5 : σ (10 + 5 * p) = 5
    · simp [s_34, aILoad, aRLoad, aLLoad, aIStore, aRStore, aPush, aBin, aBinL, aShL, aUn, aIf, aIc, aGet, aPut, aIald, aBald, aAald, aIast, aBast, aAast, aAlen, aCopy, aCallV, aCallC, aCallI, aRet, aCat, aMax, aMin, aDiv, aRem, aI2l, aL2i, aNul, aSwS, aSw, aInc, aDup, aDup2, aPop1, aIret, aAret, aVret, aLen, aFk, aFT, Value.category, s1, s2, h1, h2, ho, own, k5, sUrg]
    by_cases k6 : σ (10 + 5 * p) = 6
    · by_cases hm : σ (11 + 5 * p) ≤ σ (53 + 7 * t)
      · simp [s_34, aILoad, aRLoad, aLLoad, aIStore, aRStore, aPush, aBin, aBinL, aShL, aUn, aIf, aIc, aGet, aPut, aIald, aBald, aAald, aIast, aBast, aAast, aAlen, aCopy, aCallV, aCallC, aCallI, aRet, aCat, aMax, aMin, aDiv, aRem, aI2l, aL2i, aNul, aSwS, aSw, aInc, aDup, aDup2, aPop1, aIret, aAret, aVret, aLen, aFk, aFT, Value.category, s1, s2, h1, h2, ho, own, k6, sUrg, hm, Int32.not_lt.mpr hm]
      · simp [s_34, aILoad, aRLoad, aLLoad, aIStore, aRStore, aPush, aBin, aBinL, aShL, aUn, aIf, aIc, aGet, aPut, aIald, aBald, aAald, aIast, aBast, aAast, aAlen, aCopy, aCallV, aCallC, aCallI, aRet, aCat, aMax, aMin, aDiv, aRem, aI2l, aL2i, aNul, aSwS, aSw, aInc, aDup, aDup2, aPop1, aIret, aAret, aVret, aLen, aFk, aFT, Value.category, s1, s2, h1, h2, ho, own, k6, sUrg, hm, Int32.not_le.mp hm]
    · simp [s_34, aILoad, aRLoad, aLLoad, aIStore, aRStore, aPush, aBin, aBinL, aShL, aUn, aIf, aIc, aGet, aPut, aIald, aBald, aAald, aIast, aBast, aAast, aAlen, aCopy, aCallV, aCallC, aCallI, aRet, aCat, aMax, aMin, aDiv, aRem, aI2l, aL2i, aNul, aSwS, aSw, aInc, aDup, aDup2, aPop1, aIret, aAret, aVret, aLen, aFk, aFT, Value.category, s1, s2, h1, h2, ho, own, k1, k2, k3, k4, k5, k6, sUrg]
  · simp only [own, if_false] at ho
    by_cases hr : σ (13 + 5 * p) = 0
    · by_cases k1 : σ (10 + 5 * p) = 1
      · simp [s_34, aILoad, aRLoad, aLLoad, aIStore, aRStore, aPush, aBin, aBinL, aShL, aUn, aIf, aIc, aGet, aPut, aIald, aBald, aAald, aIast, aBast, aAast, aAlen, aCopy, aCallV, aCallC, aCallI, aRet, aCat, aMax, aMin, aDiv, aRem, aI2l, aL2i, aNul, aSwS, aSw, aInc, aDup, aDup2, aPop1, aIret, aAret, aVret, aLen, aFk, aFT, Value.category, s1, s2, h1, h2, ho, own, k1, sUrg, hr]
      by_cases k2 : σ (10 + 5 * p) = 2
      · simp [s_34, aILoad, aRLoad, aLLoad, aIStore, aRStore, aPush, aBin, aBinL, aShL, aUn, aIf, aIc, aGet, aPut, aIald, aBald, aAald, aIast, aBast, aAast, aAlen, aCopy, aCallV, aCallC, aCallI, aRet, aCat, aMax, aMin, aDiv, aRem, aI2l, aL2i, aNul, aSwS, aSw, aInc, aDup, aDup2, aPop1, aIret, aAret, aVret, aLen, aFk, aFT, Value.category, s1, s2, h1, h2, ho, own, k2, sUrg, hr]
      by_cases k3 : σ (10 + 5 * p) = 3
      · simp [s_34, aILoad, aRLoad, aLLoad, aIStore, aRStore, aPush, aBin, aBinL, aShL, aUn, aIf, aIc, aGet, aPut, aIald, aBald, aAald, aIast, aBast, aAast, aAlen, aCopy, aCallV, aCallC, aCallI, aRet, aCat, aMax, aMin, aDiv, aRem, aI2l, aL2i, aNul, aSwS, aSw, aInc, aDup, aDup2, aPop1, aIret, aAret, aVret, aLen, aFk, aFT, Value.category, s1, s2, h1, h2, ho, own, k3, sUrg, hr]
      by_cases k4 : σ (10 + 5 * p) = 4
      · simp [s_34, aILoad, aRLoad, aLLoad, aIStore, aRStore, aPush, aBin, aBinL, aShL, aUn, aIf, aIc, aGet, aPut, aIald, aBald, aAald, aIast, aBast, aAast, aAlen, aCopy, aCallV, aCallC, aCallI, aRet, aCat, aMax, aMin, aDiv, aRem, aI2l, aL2i, aNul, aSwS, aSw, aInc, aDup, aDup2, aPop1, aIret, aAret, aVret, aLen, aFk, aFT, Value.category, s1, s2, h1, h2, ho, own, k4, sUrg, hr]
      by_cases k5 : σ (10 + 5 * p) = 5
      · by_cases hs : σ (50 + 7 * t) = σ (14 + 5 * p)
        · have own' : ¬ σ (14 + 5 * p) = nI p := fun z => own (hs.trans z)
          simp [s_34, aILoad, aRLoad, aLLoad, aIStore, aRStore, aPush, aBin, aBinL, aShL, aUn, aIf, aIc, aGet, aPut, aIald, aBald, aAald, aIast, aBast, aAast, aAlen, aCopy, aCallV, aCallC, aCallI, aRet, aCat, aMax, aMin, aDiv, aRem, aI2l, aL2i, aNul, aSwS, aSw, aInc, aDup, aDup2, aPop1, aIret, aAret, aVret, aLen, aFk, aFT, Value.category, s1, s2, h1, h2, ho, own', k5, sUrg, hr, hs]
        · simp [s_34, aILoad, aRLoad, aLLoad, aIStore, aRStore, aPush, aBin, aBinL, aShL, aUn, aIf, aIc, aGet, aPut, aIald, aBald, aAald, aIast, aBast, aAast, aAlen, aCopy, aCallV, aCallC, aCallI, aRet, aCat, aMax, aMin, aDiv, aRem, aI2l, aL2i, aNul, aSwS, aSw, aInc, aDup, aDup2, aPop1, aIret, aAret, aVret, aLen, aFk, aFT, Value.category, s1, s2, h1, h2, ho, own, k5, sUrg, hr, hs]
      by_cases k6 : σ (10 + 5 * p) = 6
      · by_cases hm : σ (11 + 5 * p) ≤ σ (53 + 7 * t)
        · simp [s_34, aILoad, aRLoad, aLLoad, aIStore, aRStore, aPush, aBin, aBinL, aShL, aUn, aIf, aIc, aGet, aPut, aIald, aBald, aAald, aIast, aBast, aAast, aAlen, aCopy, aCallV, aCallC, aCallI, aRet, aCat, aMax, aMin, aDiv, aRem, aI2l, aL2i, aNul, aSwS, aSw, aInc, aDup, aDup2, aPop1, aIret, aAret, aVret, aLen, aFk, aFT, Value.category, s1, s2, h1, h2, ho, own, k6, sUrg, hm, hr, Int32.not_lt.mpr hm]
        · simp [s_34, aILoad, aRLoad, aLLoad, aIStore, aRStore, aPush, aBin, aBinL, aShL, aUn, aIf, aIc, aGet, aPut, aIald, aBald, aAald, aIast, aBast, aAast, aAlen, aCopy, aCallV, aCallC, aCallI, aRet, aCat, aMax, aMin, aDiv, aRem, aI2l, aL2i, aNul, aSwS, aSw, aInc, aDup, aDup2, aPop1, aIret, aAret, aVret, aLen, aFk, aFT, Value.category, s1, s2, h1, h2, ho, own, k6, sUrg, hm, hr, Int32.not_le.mp hm]
      · simp [s_34, aILoad, aRLoad, aLLoad, aIStore, aRStore, aPush, aBin, aBinL, aShL, aUn, aIf, aIc, aGet, aPut, aIald, aBald, aAald, aIast, aBast, aAast, aAlen, aCopy, aCallV, aCallC, aCallI, aRet, aCat, aMax, aMin, aDiv, aRem, aI2l, aL2i, aNul, aSwS, aSw, aInc, aDup, aDup2, aPop1, aIret, aAret, aVret, aLen, aFk, aFT, Value.category, s1, s2, h1, h2, ho, own, k1, k2, k3, k4, k5, k6, sUrg, hr]
    · by_cases k1 : σ (10 + 5 * p) = 1
      · simp [s_34, aILoad, aRLoad, aLLoad, aIStore, aRStore, aPush, aBin, aBinL, aShL, aUn, aIf, aIc, aGet, aPut, aIald, aBald, aAald, aIast, aBast, aAast, aAlen, aCopy, aCallV, aCallC, aCallI, aRet, aCat, aMax, aMin, aDiv, aRem, aI2l, aL2i, aNul, aSwS, aSw, aInc, aDup, aDup2, aPop1, aIret, aAret, aVret, aLen, aFk, aFT, Value.category, s1, s2, h1, h2, ho, own, k1, sUrg, hr]
      by_cases k2 : σ (10 + 5 * p) = 2
      · simp [s_34, aILoad, aRLoad, aLLoad, aIStore, aRStore, aPush, aBin, aBinL, aShL, aUn, aIf, aIc, aGet, aPut, aIald, aBald, aAald, aIast, aBast, aAast, aAlen, aCopy, aCallV, aCallC, aCallI, aRet, aCat, aMax, aMin, aDiv, aRem, aI2l, aL2i, aNul, aSwS, aSw, aInc, aDup, aDup2, aPop1, aIret, aAret, aVret, aLen, aFk, aFT, Value.category, s1, s2, h1, h2, ho, own, k2, sUrg, hr]
      by_cases k3 : σ (10 + 5 * p) = 3
      · simp [s_34, aILoad, aRLoad, aLLoad, aIStore, aRStore, aPush, aBin, aBinL, aShL, aUn, aIf, aIc, aGet, aPut, aIald, aBald, aAald, aIast, aBast, aAast, aAlen, aCopy, aCallV, aCallC, aCallI, aRet, aCat, aMax, aMin, aDiv, aRem, aI2l, aL2i, aNul, aSwS, aSw, aInc, aDup, aDup2, aPop1, aIret, aAret, aVret, aLen, aFk, aFT, Value.category, s1, s2, h1, h2, ho, own, k3, sUrg, hr]
      by_cases k4 : σ (10 + 5 * p) = 4
      · simp [s_34, aILoad, aRLoad, aLLoad, aIStore, aRStore, aPush, aBin, aBinL, aShL, aUn, aIf, aIc, aGet, aPut, aIald, aBald, aAald, aIast, aBast, aAast, aAlen, aCopy, aCallV, aCallC, aCallI, aRet, aCat, aMax, aMin, aDiv, aRem, aI2l, aL2i, aNul, aSwS, aSw, aInc, aDup, aDup2, aPop1, aIret, aAret, aVret, aLen, aFk, aFT, Value.category, s1, s2, h1, h2, ho, own, k4, sUrg, hr]
      by_cases k5 : σ (10 + 5 * p) = 5
      · by_cases hs : σ (50 + 7 * t) = σ (14 + 5 * p)
        · have own' : ¬ σ (14 + 5 * p) = nI p := fun z => own (hs.trans z)
          simp [s_34, aILoad, aRLoad, aLLoad, aIStore, aRStore, aPush, aBin, aBinL, aShL, aUn, aIf, aIc, aGet, aPut, aIald, aBald, aAald, aIast, aBast, aAast, aAlen, aCopy, aCallV, aCallC, aCallI, aRet, aCat, aMax, aMin, aDiv, aRem, aI2l, aL2i, aNul, aSwS, aSw, aInc, aDup, aDup2, aPop1, aIret, aAret, aVret, aLen, aFk, aFT, Value.category, s1, s2, h1, h2, ho, own', k5, sUrg, hr, hs]
        · simp [s_34, aILoad, aRLoad, aLLoad, aIStore, aRStore, aPush, aBin, aBinL, aShL, aUn, aIf, aIc, aGet, aPut, aIald, aBald, aAald, aIast, aBast, aAast, aAlen, aCopy, aCallV, aCallC, aCallI, aRet, aCat, aMax, aMin, aDiv, aRem, aI2l, aL2i, aNul, aSwS, aSw, aInc, aDup, aDup2, aPop1, aIret, aAret, aVret, aLen, aFk, aFT, Value.category, s1, s2, h1, h2, ho, own, k5, sUrg, hr, hs]
      by_cases k6 : σ (10 + 5 * p) = 6
      · by_cases hm : σ (11 + 5 * p) ≤ σ (53 + 7 * t)
        · simp [s_34, aILoad, aRLoad, aLLoad, aIStore, aRStore, aPush, aBin, aBinL, aShL, aUn, aIf, aIc, aGet, aPut, aIald, aBald, aAald, aIast, aBast, aAast, aAlen, aCopy, aCallV, aCallC, aCallI, aRet, aCat, aMax, aMin, aDiv, aRem, aI2l, aL2i, aNul, aSwS, aSw, aInc, aDup, aDup2, aPop1, aIret, aAret, aVret, aLen, aFk, aFT, Value.category, s1, s2, h1, h2, ho, own, k6, sUrg, hm, hr, Int32.not_lt.mpr hm]
        · simp [s_34, aILoad, aRLoad, aLLoad, aIStore, aRStore, aPush, aBin, aBinL, aShL, aUn, aIf, aIc, aGet, aPut, aIald, aBald, aAald, aIast, aBast, aAast, aAlen, aCopy, aCallV, aCallC, aCallI, aRet, aCat, aMax, aMin, aDiv, aRem, aI2l, aL2i, aNul, aSwS, aSw, aInc, aDup, aDup2, aPop1, aIret, aAret, aVret, aLen, aFk, aFT, Value.category, s1, s2, h1, h2, ho, own, k6, sUrg, hm, hr, Int32.not_le.mp hm]
      · simp [s_34, aILoad, aRLoad, aLLoad, aIStore, aRStore, aPush, aBin, aBinL, aShL, aUn, aIf, aIc, aGet, aPut, aIald, aBald, aAald, aIast, aBast, aAast, aAlen, aCopy, aCallV, aCallC, aCallI, aRet, aCat, aMax, aMin, aDiv, aRem, aI2l, aL2i, aNul, aSwS, aSw, aInc, aDup, aDup2, aPop1, aIret, aAret, aVret, aLen, aFk, aFT, Value.category, s1, s2, h1, h2, ho, own, k1, k2, k3, k4, k5, k6, sUrg, hr]
theorem relF.la (h : relF f I σ P T) : relL I (f + 3) σ 0 := h.2.2.2.2.2.2.2.1
theorem relF.lg (h : relF f I σ P T) : relL I (f + 7) σ 1 := h.2.2.2.2.2.2.2.2
theorem k_appeal {a b c : Int32} (hf : isF f) (h : relF f I σ P T) (hT : okT σ) : ∃ I1, aCall aMt (d + 3) 24 [.ref (f + 3), .int a, .int b, .int c] (HH I x y) = some (some (.int (sAppT σ a b c)), HH I1 x y) ∧ KF f I I1 := by
  obtain ⟨I1, h1, h2⟩ := k_gives0 (d := d) (x := x) (y := y) (a := a) (b := b) (c := c) (f_l3 hf) h.la hT.1
  exact ⟨I1, h1, fun j hj _ => h2 j (by omega)⟩
theorem k_guard {a b c : Int32} (hf : isF f) (h : relF f I σ P T) (hT : okT σ) : ∃ I1, aCall aMt (d + 3) 24 [.ref (f + 7), .int a, .int b, .int c] (HH I x y) = some (some (.int (sGuaT σ a b c)), HH I1 x y) ∧ KF f I I1 := by
  obtain ⟨I1, h1, h2⟩ := k_gives1 (d := d) (x := x) (y := y) (a := a) (b := b) (c := c) (f_l7 hf) h.lg hT.2
  exact ⟨I1, h1, fun j _ hj => h2 j (by omega)⟩
theorem k_appealOf {t : Nat} (hf : isF f) (h : relF f I σ P T) (ht : t < T) (hT : okT σ) : ∃ I1, aCall aMt (d + 4) 7 [.ref f, .ref (f + 21 + t)] (HH I x y) = some (some (.int (sApp σ t)), HH I1 x y) ∧ KF f I I1 := by
  have hP := h.1
  obtain ⟨I1, h1, h2⟩ := k_appeal (d := d) (x := x) (y := y) (a := σ (51 + 7 * t)) (b := σ (52 + 7 * t)) (c := σ (53 + 7 * t)) hf h hT
  refine ⟨I1, ?_, h2⟩
  rw [e_7]
  simp [s_7, aILoad, aRLoad, aLLoad, aIStore, aRStore, aPush, aBin, aBinL, aShL, aUn, aIf, aIc, aGet, aPut, aIald, aBald, aAald, aIast, aBast, aAast, aAlen, aCopy, aCallV, aCallC, aCallI, aRet, aCat, aMax, aMin, aDiv, aRem, aI2l, aL2i, aNul, aSwS, aSw, aInc, aDup, aDup2, aPop1, aIret, aAret, aVret, aLen, aFk, aFT, Value.category, f_sh hf, f_p hf, f_th hf (show t < 10 by omega), h.th ht, h1, sApp]
theorem k_pull {p t : Nat} {s : Int32} (hf : isF f) (h : relF f I σ P T) (hp : p < P) (ht : t < T) (hT : okT σ) : ∃ I1, aCall aMt (d + 4) 8 [.ref f, .ref (f + 13 + p), .ref (f + 21 + t), .int s] (HH I x y) = some (some (.int (sPull σ p t s)), HH I1 x y) ∧ KF f I I1 := by
  have hP := h.1
  obtain ⟨I1, h1, h2⟩ := k_appeal (d := d) (x := x) (y := y) (a := σ (51 + 7 * t)) (b := σ (52 + 7 * t)) (c := σ (53 + 7 * t)) hf h hT
  have g1 := h.kf h2
  have hu := k_urge (d := d + 1) (x := x) (y := y) (ap := sApp σ t) hf g1 hp ht
  have ho := k_owns (d := d + 2) (x := x) (y := y) hf g1 hp ht
  have h1' : aCall aMt (d + 3) 24 [.ref (f + 3), .int (σ (51 + 7 * t)), .int (σ (52 + 7 * t)), .int (σ (53 + 7 * t))] (HH I x y) = some (some (.int (sApp σ t)), HH I1 x y) := h1
  rw [e_8]
  by_cases own : σ (50 + 7 * t) = nI p
  · refine ⟨I1, ?_, h2⟩
    simp only [own, if_true] at ho
    simp [s_8, aILoad, aRLoad, aLLoad, aIStore, aRStore, aPush, aBin, aBinL, aShL, aUn, aIf, aIc, aGet, aPut, aIald, aBald, aAald, aIast, aBast, aAast, aAlen, aCopy, aCallV, aCallC, aCallI, aRet, aCat, aMax, aMin, aDiv, aRem, aI2l, aL2i, aNul, aSwS, aSw, aInc, aDup, aDup2, aPop1, aIret, aAret, aVret, aLen, aFk, aFT, Value.category, f_sh hf, f_p hf, f_pe hf (show p < 8 by omega), f_th hf (show t < 10 by omega), h.th ht, h1', hu, ho, own, sPull, sUrge]
  · obtain ⟨I2, h3, h4⟩ := k_guard (d := d) (x := x) (y := y) (a := σ (51 + 7 * t)) (b := s) (c := σ (52 + 7 * t)) hf g1 hT
    refine ⟨I2, ?_, h2.trans h4⟩
    simp only [own, if_false] at ho
    simp [s_8, aILoad, aRLoad, aLLoad, aIStore, aRStore, aPush, aBin, aBinL, aShL, aUn, aIf, aIc, aGet, aPut, aIald, aBald, aAald, aIast, aBast, aAast, aAlen, aCopy, aCallV, aCallC, aCallI, aRet, aCat, aMax, aMin, aDiv, aRem, aI2l, aL2i, aNul, aSwS, aSw, aInc, aDup, aDup2, aPop1, aIret, aAret, aVret, aLen, aFk, aFT, Value.category, f_sh hf, f_p hf, f_pe hf (show p < 8 by omega), f_th hf (show t < 10 by omega), h.th ht, g1.th ht, h1', hu, ho, own, h3, sPull, sUrge, sGua]
def wfTh (σ : Nat → Int32) (T : Nat) : Prop := ∀ t, t < T → σ (55 + 7 * t) = 0 ∨ σ (55 + 7 * t) = 1
theorem k_wanted_loop {p : Nat} {s : Int32} {I0 : Nat → Nat → Int32} (hf : isF f) (h : relF f I0 σ P T) (hp : p < P) (hT : okT σ) (hw : wfTh σ T) : ∀ k t (I : Nat → Nat → Int32) (l6 : Option Value), t + k = T → KF f I0 I →
    ∃ I1, aGo (aCall aMt (d + 4)) none cd_9 0 8 [some (.ref f), some (.ref (f + 13 + p)), some (.int s), some (.int (sBest σ p s t).1), some (.int (sBest σ p s t).2), some (.int (nI t)), l6] [] (HH I x y) = some (some (.int (sBest σ p s T).1), HH I1 x y) ∧ KF f I0 I1 := by
  intro k
  induction k with
  | zero =>
    intro t I l6 ht hk
    obtain rfl : t = T := by omega
    refine ⟨I, ?_, hk⟩
    rw [s_9_8]
    simp [s_9, aILoad, aRLoad, aLLoad, aIStore, aRStore, aPush, aBin, aBinL, aShL, aUn, aIf, aIc, aGet, aPut, aIald, aBald, aAald, aIast, aBast, aAast, aAlen, aCopy, aCallV, aCallC, aCallI, aRet, aCat, aMax, aMin, aDiv, aRem, aI2l, aL2i, aNul, aSwS, aSw, aInc, aDup, aDup2, aPop1, aIret, aAret, aVret, aLen, aFk, aFT, Value.category, f_sh hf, (h.kf hk).fi]
  | succ k ih =>
    intro t I l6 ht hk
    have hP := h.1
    have g := h.kf hk
    have h1 : ¬ nI T ≤ nI t := nI_ge (by omega) (by omega)
    have hc := k_can (d := d + 3) (x := x) (y := y) hf g (show t < T by omega) (hw t (by omega))
    rw [s_9_8]
    by_cases hs : sCan σ t
    · obtain ⟨I2, h3, h4⟩ := k_pull (d := d) (x := x) (y := y) (s := s) hf g hp (show t < T by omega) hT
      simp only [hs, if_true] at hc
      by_cases hb : (sBest σ p s t).2 < sPull σ p t s
      · obtain ⟨I1, g1, g2⟩ := ih (t + 1) I2 (some (.int (sPull σ p t s))) (by omega) (hk.trans h4)
        refine ⟨I1, ?_, g2⟩
        rw [← g1]
        simp [s_9, aILoad, aRLoad, aLLoad, aIStore, aRStore, aPush, aBin, aBinL, aShL, aUn, aIf, aIc, aGet, aPut, aIald, aBald, aAald, aIast, aBast, aAast, aAlen, aCopy, aCallV, aCallC, aCallI, aRet, aCat, aMax, aMin, aDiv, aRem, aI2l, aL2i, aNul, aSwS, aSw, aInc, aDup, aDup2, aPop1, aIret, aAret, aVret, aLen, aFk, aFT, Value.category, f_sh hf, f_p hf, f_tp hf (show t < 10 by omega), f_th hf (show t < 10 by omega), f_pe hf (show p < 8 by omega), g.fi, h1, hc, h3, nI_pos' (n := t) (by omega), toNat_nI (show t < 2 ^ 31 by omega), show t < 10 by omega, nI_lt0 (show t < 2 ^ 31 by omega), show ¬ 10 ≤ t by omega, hb, Int32.not_le.mpr hb, nI_1, sBest, hs]
      · obtain ⟨I1, g1, g2⟩ := ih (t + 1) I2 (some (.int (sPull σ p t s))) (by omega) (hk.trans h4)
        refine ⟨I1, ?_, g2⟩
        rw [← g1]
        simp [s_9, aILoad, aRLoad, aLLoad, aIStore, aRStore, aPush, aBin, aBinL, aShL, aUn, aIf, aIc, aGet, aPut, aIald, aBald, aAald, aIast, aBast, aAast, aAlen, aCopy, aCallV, aCallC, aCallI, aRet, aCat, aMax, aMin, aDiv, aRem, aI2l, aL2i, aNul, aSwS, aSw, aInc, aDup, aDup2, aPop1, aIret, aAret, aVret, aLen, aFk, aFT, Value.category, f_sh hf, f_p hf, f_tp hf (show t < 10 by omega), f_th hf (show t < 10 by omega), f_pe hf (show p < 8 by omega), g.fi, h1, hc, h3, nI_pos' (n := t) (by omega), toNat_nI (show t < 2 ^ 31 by omega), show t < 10 by omega, nI_lt0 (show t < 2 ^ 31 by omega), show ¬ 10 ≤ t by omega, hb, Int32.not_lt.mp hb, nI_1, sBest, hs]
    · simp only [hs, if_false] at hc
      obtain ⟨I1, g1, g2⟩ := ih (t + 1) I (some (.int 0)) (by omega) hk
      refine ⟨I1, ?_, g2⟩
      rw [← g1]
      by_cases hb : (sBest σ p s t).2 < 0
      · simp [s_9, aILoad, aRLoad, aLLoad, aIStore, aRStore, aPush, aBin, aBinL, aShL, aUn, aIf, aIc, aGet, aPut, aIald, aBald, aAald, aIast, aBast, aAast, aAlen, aCopy, aCallV, aCallC, aCallI, aRet, aCat, aMax, aMin, aDiv, aRem, aI2l, aL2i, aNul, aSwS, aSw, aInc, aDup, aDup2, aPop1, aIret, aAret, aVret, aLen, aFk, aFT, Value.category, f_sh hf, f_p hf, f_tp hf (show t < 10 by omega), f_th hf (show t < 10 by omega), f_pe hf (show p < 8 by omega), g.fi, h1, hc, nI_pos' (n := t) (by omega), toNat_nI (show t < 2 ^ 31 by omega), show t < 10 by omega, nI_lt0 (show t < 2 ^ 31 by omega), show ¬ 10 ≤ t by omega, hb, Int32.not_le.mpr hb, nI_1, sBest, hs]
      · simp [s_9, aILoad, aRLoad, aLLoad, aIStore, aRStore, aPush, aBin, aBinL, aShL, aUn, aIf, aIc, aGet, aPut, aIald, aBald, aAald, aIast, aBast, aAast, aAlen, aCopy, aCallV, aCallC, aCallI, aRet, aCat, aMax, aMin, aDiv, aRem, aI2l, aL2i, aNul, aSwS, aSw, aInc, aDup, aDup2, aPop1, aIret, aAret, aVret, aLen, aFk, aFT, Value.category, f_sh hf, f_p hf, f_tp hf (show t < 10 by omega), f_th hf (show t < 10 by omega), f_pe hf (show p < 8 by omega), g.fi, h1, hc, nI_pos' (n := t) (by omega), toNat_nI (show t < 2 ^ 31 by omega), show t < 10 by omega, nI_lt0 (show t < 2 ^ 31 by omega), show ¬ 10 ≤ t by omega, hb, Int32.not_lt.mp hb, nI_1, sBest, hs]
theorem k_wanted {p : Nat} {s : Int32} (hf : isF f) (h : relF f I σ P T) (hp : p < P) (hT : okT σ) (hw : wfTh σ T) : ∃ I1, aCall aMt (d + 5) 9 [.ref f, .ref (f + 13 + p), .int s] (HH I x y) = some (some (.int (sWant σ p s)), HH I1 x y) ∧ KF f I I1 := by
  have hP := h.1
  obtain ⟨I1, h1, h2⟩ := k_wanted_loop (d := d) (x := x) (y := y) (s := s) hf h hp hT hw T 0 I none (by omega) KF.rf
  refine ⟨I1, ?_, h2⟩
  have e : sWant σ p s = (sBest σ p s T).1 := by unfold sWant; rw [h.fi.2.2.2.1, toNat_nI (by omega)]
  rw [e_9, e, ← h1]
  simp [s_9, aILoad, aRLoad, aLLoad, aIStore, aRStore, aPush, aBin, aBinL, aShL, aUn, aIf, aIc, aGet, aPut, aIald, aBald, aAald, aIast, aBast, aAast, aAlen, aCopy, aCallV, aCallC, aCallI, aRet, aCat, aMax, aMin, aDiv, aRem, aI2l, aL2i, aNul, aSwS, aSw, aInc, aDup, aDup2, aPop1, aIret, aAret, aVret, aLen, aFk, aFT, Value.category, sBest, nI_lit0]
end CLS4
