/-! the reference: URGE, WANTS -/
section REF6
variable {d : Nat} {I : Nat → Nat → Int32} {x y : Option Nat}
theorem r_appeal {t : Nat} (ht : t < 10) (hT : okTx (I 114) 0 names0) : ∃ I1, aCall aMt (d + 4) 149 [.ref 113, .int (nI t)] (HH I x y) = some (some (.int (sApp (I 114) t)), HH I1 x y) ∧ RF I I1 := by
  obtain ⟨I1, h1, h2⟩ := r_appT (d := d) (x := x) (y := y) (l := I 114 (50 + 7 * t + 1)) (o := I 114 (50 + 7 * t + 2)) (a := I 114 (50 + 7 * t + 3)) hT
  refine ⟨I1, ?_, h2⟩
  rw [e_149]
  have a1 : 50 + 7 * t + 1 = 51 + 7 * t := by omega
  have a2 : 50 + 7 * t + 2 = 52 + 7 * t := by omega
  have a3 : 50 + 7 * t + 3 = 53 + 7 * t := by omega
  rw [a1, a2, a3] at h1
  simp [s_149, aILoad, aRLoad, aLLoad, aIStore, aRStore, aPush, aBin, aBinL, aShL, aUn, aIf, aIc, aGet, aPut, aIald, aBald, aAald, aIast, aBast, aAast, aAlen, aCopy, aCallV, aCallC, aCallI, aRet, aCat, aMax, aMin, aDiv, aRem, aI2l, aL2i, aNul, aSwS, aSw, aInc, aDup, aDup2, aPop1, aIret, aAret, aVret, aLen, aFk, aFT, Value.category, m_sh, m_p, r_of ht, a1, a2, a3, h1, sApp]
theorem r_guardOf {t : Nat} {s : Int32} (ht : t < 10) (hT : okTx (I 114) 1 names1) : ∃ I1, aCall aMt (d + 4) 150 [.ref 113, .int (nI t), .int s] (HH I x y) = some (some (.int (sGua (I 114) t s)), HH I1 x y) ∧ RF I I1 := by
  obtain ⟨I1, h1, h2⟩ := r_guaT (d := d) (x := x) (y := y) (l := I 114 (50 + 7 * t + 1)) (s := s) (o := I 114 (50 + 7 * t + 2)) hT
  refine ⟨I1, ?_, h2⟩
  rw [e_150]
  have a1 : 50 + 7 * t + 1 = 51 + 7 * t := by omega
  have a2 : 50 + 7 * t + 2 = 52 + 7 * t := by omega
  rw [a1, a2] at h1
  simp [s_150, aILoad, aRLoad, aLLoad, aIStore, aRStore, aPush, aBin, aBinL, aShL, aUn, aIf, aIc, aGet, aPut, aIald, aBald, aAald, aIast, aBast, aAast, aAlen, aCopy, aCallV, aCallC, aCallI, aRet, aCat, aMax, aMin, aDiv, aRem, aI2l, aL2i, aNul, aSwS, aSw, aInc, aDup, aDup2, aPop1, aIret, aAret, aVret, aLen, aFk, aFT, Value.category, m_sh, m_p, r_of ht, a1, a2, h1, sGua]
theorem r_asPerson {p : Nat} {b : Bool} (hp : p < 8) : aCall aMt (d + 2) 151 [.ref 113, .int (nI p), .int (if b then 1 else 0)] (HH I x y) = some (some (.int (if b then 50 + I 114 (12 + 5 * p) else 0)), HH I x y) := by
  rw [e_151]
  have a1 : 10 + 5 * p + 2 = 12 + 5 * p := by omega
  cases b <;> simp [s_151, aILoad, aRLoad, aLLoad, aIStore, aRStore, aPush, aBin, aBinL, aShL, aUn, aIf, aIc, aGet, aPut, aIald, aBald, aAald, aIast, aBast, aAast, aAlen, aCopy, aCallV, aCallC, aCallI, aRet, aCat, aMax, aMin, aDiv, aRem, aI2l, aL2i, aNul, aSwS, aSw, aInc, aDup, aDup2, aPop1, aIret, aAret, aVret, aLen, aFk, aFT, Value.category, m_sh, m_p, r_its hp, a1]
theorem sNeg (v : Int32) : (if v < 0 then 0 else v) = (if 0 < v then v else 0) := by
  by_cases h : v < 0
  · have h2 : ¬ 0 < v := Int32.not_lt.mpr (Int32.le_of_lt h)
    rw [if_pos h, if_neg h2]
  · rw [if_neg h]
    by_cases h2 : 0 < v
    · rw [if_pos h2]
    · rw [if_neg h2]; exact Int32.le_antisymm (Int32.not_lt.mp h2) (Int32.not_lt.mp h)
theorem r_asTaker {p t : Nat} {b : Bool} (hp : p < 8) (ht : t < 10) (hT : okTx (I 114) 0 names0) : ∃ I1, aCall aMt (d + 5) 152 [.ref 113, .int (nI p), .int (nI t), .int (if b then 1 else 0)] (HH I x y) = some (some (.int (if b then 50 + I 114 (12 + 5 * p) else (if 0 < sApp (I 114) t + I 114 (12 + 5 * p) / 2 - 20 then sApp (I 114) t + I 114 (12 + 5 * p) / 2 - 20 else 0))), HH I1 x y) ∧ RF I I1 := by
  obtain ⟨I1, h1, h2⟩ := r_appeal (d := d) (x := x) (y := y) ht hT
  refine ⟨I1, ?_, h2⟩
  have a1 : 10 + 5 * p + 2 = 12 + 5 * p := by omega
  have e1 : I1 114 = I 114 := h2 114 (by decide) (by decide)
  rw [e_152]
  cases b with
  | true =>
    have h3 := r_asPerson (d := d + 2) (I := I1) (x := x) (y := y) (b := true) hp
    simp only [if_true] at h3
    simp [s_152, aILoad, aRLoad, aLLoad, aIStore, aRStore, aPush, aBin, aBinL, aShL, aUn, aIf, aIc, aGet, aPut, aIald, aBald, aAald, aIast, aBast, aAast, aAlen, aCopy, aCallV, aCallC, aCallI, aRet, aCat, aMax, aMin, aDiv, aRem, aI2l, aL2i, aNul, aSwS, aSw, aInc, aDup, aDup2, aPop1, aIret, aAret, aVret, aLen, aFk, aFT, Value.category, m_sh, m_p, r_its hp, h1, a1, e1, h3]
  | false =>
    rw [← sNeg]
    by_cases hn : sApp (I 114) t + I 114 (12 + 5 * p) / 2 - 20 < 0
    · simp [s_152, aILoad, aRLoad, aLLoad, aIStore, aRStore, aPush, aBin, aBinL, aShL, aUn, aIf, aIc, aGet, aPut, aIald, aBald, aAald, aIast, aBast, aAast, aAlen, aCopy, aCallV, aCallC, aCallI, aRet, aCat, aMax, aMin, aDiv, aRem, aI2l, aL2i, aNul, aSwS, aSw, aInc, aDup, aDup2, aPop1, aIret, aAret, aVret, aLen, aFk, aFT, Value.category, m_sh, m_p, r_its hp, h1, a1, e1, hn, Int32.not_le.mpr hn]
    · simp [s_152, aILoad, aRLoad, aLLoad, aIStore, aRStore, aPush, aBin, aBinL, aShL, aUn, aIf, aIc, aGet, aPut, aIald, aBald, aAald, aIast, aBast, aAast, aAlen, aCopy, aCallV, aCallC, aCallI, aRet, aCat, aMax, aMin, aDiv, aRem, aI2l, aL2i, aNul, aSwS, aSw, aInc, aDup, aDup2, aPop1, aIret, aAret, aVret, aLen, aFk, aFT, Value.category, m_sh, m_p, r_its hp, h1, a1, e1, hn, Int32.not_lt.mp hn]
theorem r_asAvenger {p t : Nat} {b : Bool} (hp : p < 8) (ht : t < 10) (hT : okTx (I 114) 0 names0) : ∃ I1, aCall aMt (d + 5) 153 [.ref 113, .int (nI p), .int (nI t), .int (if b then 1 else 0)] (HH I x y) = some (some (.int (if b ∨ I 114 (13 + 5 * p) = 0 then (if b then 50 + I 114 (12 + 5 * p) else 0) else 15 * I 114 (13 + 5 * p) + sApp (I 114) t / 2)), HH I1 x y) ∧ RF I I1 := by
  have a1 : 10 + 5 * p + 3 = 13 + 5 * p := by omega
  have h3 := fun b => r_asPerson (d := d + 2) (I := I) (x := x) (y := y) (b := b) hp
  rw [e_153]
  cases b with
  | true =>
    have h3 := h3 true
    simp only [if_true] at h3
    refine ⟨I, ?_, RF.rf⟩
    simp [s_153, aILoad, aRLoad, aLLoad, aIStore, aRStore, aPush, aBin, aBinL, aShL, aUn, aIf, aIc, aGet, aPut, aIald, aBald, aAald, aIast, aBast, aAast, aAlen, aCopy, aCallV, aCallC, aCallI, aRet, aCat, aMax, aMin, aDiv, aRem, aI2l, aL2i, aNul, aSwS, aSw, aInc, aDup, aDup2, aPop1, aIret, aAret, aVret, aLen, aFk, aFT, Value.category, m_sh, m_p, r_its hp, a1, h3]
  | false =>
    by_cases hr : I 114 (13 + 5 * p) = 0
    · have h3 := h3 false
      refine ⟨I, ?_, RF.rf⟩
      simp at h3
      simp [s_153, aILoad, aRLoad, aLLoad, aIStore, aRStore, aPush, aBin, aBinL, aShL, aUn, aIf, aIc, aGet, aPut, aIald, aBald, aAald, aIast, aBast, aAast, aAlen, aCopy, aCallV, aCallC, aCallI, aRet, aCat, aMax, aMin, aDiv, aRem, aI2l, aL2i, aNul, aSwS, aSw, aInc, aDup, aDup2, aPop1, aIret, aAret, aVret, aLen, aFk, aFT, Value.category, m_sh, m_p, r_its hp, a1, hr, h3]
    · obtain ⟨I1, h1, h2⟩ := r_appeal (d := d) (x := x) (y := y) ht hT
      refine ⟨I1, ?_, h2⟩
      simp [s_153, aILoad, aRLoad, aLLoad, aIStore, aRStore, aPush, aBin, aBinL, aShL, aUn, aIf, aIc, aGet, aPut, aIald, aBald, aAald, aIast, aBast, aAast, aAlen, aCopy, aCallV, aCallC, aCallI, aRet, aCat, aMax, aMin, aDiv, aRem, aI2l, aL2i, aNul, aSwS, aSw, aInc, aDup, aDup2, aPop1, aIret, aAret, aVret, aLen, aFk, aFT, Value.category, m_sh, m_p, r_its hp, a1, hr, h1]
theorem r_urgeOf {p t : Nat} (hp : p < 8) (ht : t < 10) (hT : okTx (I 114) 0 names0) : ∃ I1, aCall aMt (d + 6) 154 [.ref 113, .int (nI p), .int (nI t)] (HH I x y) = some (some (.int (sUrge (I 114) p t)), HH I1 x y) ∧ RF I I1 := by
  rw [e_154]
  have b0 : 50 + 7 * t + 0 = 50 + 7 * t := by omega
  have b3 : 50 + 7 * t + 3 = 53 + 7 * t := by omega
  have a0 : 10 + 5 * p + 0 = 10 + 5 * p := by omega
  have a1 : 10 + 5 * p + 1 = 11 + 5 * p := by omega
  have a4 : 10 + 5 * p + 4 = 14 + 5 * p := by omega
  have hits : ∀ {d : Nat} {I : Nat → Nat → Int32} {w : Int32} (h0 : 0 ≤ w) (h5 : w.toNatClampNeg < 5), _ := fun {d I w} h0 h5 => r_its (d := d) (I := I) (x := x) (y := y) (w := w) hp h0 h5
  obtain ⟨IT, hT1, hT2⟩ := r_asTaker (d := d) (x := x) (y := y) (b := decide (I 114 (50 + 7 * t) = nI p)) hp ht hT
  obtain ⟨IV, hV1, hV2⟩ := r_asAvenger (d := d) (x := x) (y := y) (b := decide (I 114 (50 + 7 * t) = nI p)) hp ht hT
  obtain ⟨IP, hP1, hP2⟩ := r_appeal (d := d + 1) (x := x) (y := y) ht hT
  have hQ := r_asPerson (d := d + 3) (x := x) (y := y) (I := I) (b := decide (I 114 (50 + 7 * t) = nI p)) hp
  have eT : IT 114 = I 114 := hT2 114 (by decide) (by decide)
  by_cases hown : I 114 (50 + 7 * t) = nI p
  · simp only [hown, decide_true, if_true, true_or] at hT1 hV1 hQ
    by_cases k1 : I 114 (10 + 5 * p) = 1
    · refine ⟨IT, ?_, hT2⟩
      simp [s_154, aILoad, aRLoad, aLLoad, aIStore, aRStore, aPush, aBin, aBinL, aShL, aUn, aIf, aIc, aGet, aPut, aIald, aBald, aAald, aIast, aBast, aAast, aAlen, aCopy, aCallV, aCallC, aCallI, aRet, aCat, aMax, aMin, aDiv, aRem, aI2l, aL2i, aNul, aSwS, aSw, aInc, aDup, aDup2, aPop1, aIret, aAret, aVret, aLen, aFk, aFT, Value.category, m_sh, m_p, r_its hp, r_of ht, hown, k1, hT1, sUrge, sUrg]
    by_cases k2 : I 114 (10 + 5 * p) = 2
    · refine ⟨IV, ?_, hV2⟩
      simp [s_154, aILoad, aRLoad, aLLoad, aIStore, aRStore, aPush, aBin, aBinL, aShL, aUn, aIf, aIc, aGet, aPut, aIald, aBald, aAald, aIast, aBast, aAast, aAlen, aCopy, aCallV, aCallC, aCallI, aRet, aCat, aMax, aMin, aDiv, aRem, aI2l, aL2i, aNul, aSwS, aSw, aInc, aDup, aDup2, aPop1, aIret, aAret, aVret, aLen, aFk, aFT, Value.category, m_sh, m_p, r_its hp, r_of ht, hown, k2, hV1, sUrge, sUrg]
    by_cases k3 : I 114 (10 + 5 * p) = 3
    · refine ⟨IP, ?_, hP2⟩
      simp [s_154, aILoad, aRLoad, aLLoad, aIStore, aRStore, aPush, aBin, aBinL, aShL, aUn, aIf, aIc, aGet, aPut, aIald, aBald, aAald, aIast, aBast, aAast, aAlen, aCopy, aCallV, aCallC, aCallI, aRet, aCat, aMax, aMin, aDiv, aRem, aI2l, aL2i, aNul, aSwS, aSw, aInc, aDup, aDup2, aPop1, aIret, aAret, aVret, aLen, aFk, aFT, Value.category, m_sh, m_p, r_its hp, r_of ht, hown, k3, hP1, sUrge, sUrg]
    by_cases k4 : I 114 (10 + 5 * p) = 4
    · refine ⟨IT, ?_, hT2⟩
      simp [s_154, aILoad, aRLoad, aLLoad, aIStore, aRStore, aPush, aBin, aBinL, aShL, aUn, aIf, aIc, aGet, aPut, aIald, aBald, aAald, aIast, aBast, aAast, aAlen, aCopy, aCallV, aCallC, aCallI, aRet, aCat, aMax, aMin, aDiv, aRem, aI2l, aL2i, aNul, aSwS, aSw, aInc, aDup, aDup2, aPop1, aIret, aAret, aVret, aLen, aFk, aFT, Value.category, m_sh, m_p, r_its hp, r_of ht, hown, k4, hT1, sUrge, sUrg, a1, eT]
    by_cases k5 : I 114 (10 + 5 * p) = 5
    · refine ⟨IV, ?_, hV2⟩
      simp [s_154, aILoad, aRLoad, aLLoad, aIStore, aRStore, aPush, aBin, aBinL, aShL, aUn, aIf, aIc, aGet, aPut, aIald, aBald, aAald, aIast, aBast, aAast, aAlen, aCopy, aCallV, aCallC, aCallI, aRet, aCat, aMax, aMin, aDiv, aRem, aI2l, aL2i, aNul, aSwS, aSw, aInc, aDup, aDup2, aPop1, aIret, aAret, aVret, aLen, aFk, aFT, Value.category, m_sh, m_p, r_its hp, r_of ht, hown, k5, hV1, sUrge, sUrg]
    by_cases k6 : I 114 (10 + 5 * p) = 6
    · refine ⟨I, ?_, RF.rf⟩
      by_cases hm : I 114 (11 + 5 * p) ≤ I 114 (53 + 7 * t)
      · simp [s_154, aILoad, aRLoad, aLLoad, aIStore, aRStore, aPush, aBin, aBinL, aShL, aUn, aIf, aIc, aGet, aPut, aIald, aBald, aAald, aIast, aBast, aAast, aAlen, aCopy, aCallV, aCallC, aCallI, aRet, aCat, aMax, aMin, aDiv, aRem, aI2l, aL2i, aNul, aSwS, aSw, aInc, aDup, aDup2, aPop1, aIret, aAret, aVret, aLen, aFk, aFT, Value.category, m_sh, m_p, r_its hp, r_of ht, hown, k6, sUrge, sUrg, a1, b3, hm, Int32.not_lt.mpr hm]
      · simp [s_154, aILoad, aRLoad, aLLoad, aIStore, aRStore, aPush, aBin, aBinL, aShL, aUn, aIf, aIc, aGet, aPut, aIald, aBald, aAald, aIast, aBast, aAast, aAlen, aCopy, aCallV, aCallC, aCallI, aRet, aCat, aMax, aMin, aDiv, aRem, aI2l, aL2i, aNul, aSwS, aSw, aInc, aDup, aDup2, aPop1, aIret, aAret, aVret, aLen, aFk, aFT, Value.category, m_sh, m_p, r_its hp, r_of ht, hown, k6, sUrge, sUrg, a1, b3, hm, Int32.not_le.mp hm]
    · refine ⟨I, ?_, RF.rf⟩
      simp [s_154, aILoad, aRLoad, aLLoad, aIStore, aRStore, aPush, aBin, aBinL, aShL, aUn, aIf, aIc, aGet, aPut, aIald, aBald, aAald, aIast, aBast, aAast, aAlen, aCopy, aCallV, aCallC, aCallI, aRet, aCat, aMax, aMin, aDiv, aRem, aI2l, aL2i, aNul, aSwS, aSw, aInc, aDup, aDup2, aPop1, aIret, aAret, aVret, aLen, aFk, aFT, Value.category, m_sh, m_p, r_its hp, r_of ht, hown, k1, k2, k3, k4, k5, k6, hQ, sUrge, sUrg]
  · simp only [hown, decide_false, Bool.false_eq_true, if_false, false_or] at hT1 hV1 hQ
    by_cases k1 : I 114 (10 + 5 * p) = 1
    · refine ⟨IT, ?_, hT2⟩
      simp [s_154, aILoad, aRLoad, aLLoad, aIStore, aRStore, aPush, aBin, aBinL, aShL, aUn, aIf, aIc, aGet, aPut, aIald, aBald, aAald, aIast, aBast, aAast, aAlen, aCopy, aCallV, aCallC, aCallI, aRet, aCat, aMax, aMin, aDiv, aRem, aI2l, aL2i, aNul, aSwS, aSw, aInc, aDup, aDup2, aPop1, aIret, aAret, aVret, aLen, aFk, aFT, Value.category, m_sh, m_p, r_its hp, r_of ht, hown, k1, hT1, sUrge, sUrg]
    by_cases k2 : I 114 (10 + 5 * p) = 2
    · refine ⟨IV, ?_, hV2⟩
      simp [s_154, aILoad, aRLoad, aLLoad, aIStore, aRStore, aPush, aBin, aBinL, aShL, aUn, aIf, aIc, aGet, aPut, aIald, aBald, aAald, aIast, aBast, aAast, aAlen, aCopy, aCallV, aCallC, aCallI, aRet, aCat, aMax, aMin, aDiv, aRem, aI2l, aL2i, aNul, aSwS, aSw, aInc, aDup, aDup2, aPop1, aIret, aAret, aVret, aLen, aFk, aFT, Value.category, m_sh, m_p, r_its hp, r_of ht, hown, k2, hV1, sUrge, sUrg]
    by_cases k3 : I 114 (10 + 5 * p) = 3
    · refine ⟨IP, ?_, hP2⟩
      simp [s_154, aILoad, aRLoad, aLLoad, aIStore, aRStore, aPush, aBin, aBinL, aShL, aUn, aIf, aIc, aGet, aPut, aIald, aBald, aAald, aIast, aBast, aAast, aAlen, aCopy, aCallV, aCallC, aCallI, aRet, aCat, aMax, aMin, aDiv, aRem, aI2l, aL2i, aNul, aSwS, aSw, aInc, aDup, aDup2, aPop1, aIret, aAret, aVret, aLen, aFk, aFT, Value.category, m_sh, m_p, r_its hp, r_of ht, hown, k3, hP1, sUrge, sUrg]
    by_cases k4 : I 114 (10 + 5 * p) = 4
    · refine ⟨IT, ?_, hT2⟩
      simp [s_154, aILoad, aRLoad, aLLoad, aIStore, aRStore, aPush, aBin, aBinL, aShL, aUn, aIf, aIc, aGet, aPut, aIald, aBald, aAald, aIast, aBast, aAast, aAlen, aCopy, aCallV, aCallC, aCallI, aRet, aCat, aMax, aMin, aDiv, aRem, aI2l, aL2i, aNul, aSwS, aSw, aInc, aDup, aDup2, aPop1, aIret, aAret, aVret, aLen, aFk, aFT, Value.category, m_sh, m_p, r_its hp, r_of ht, hown, k4, hT1, sUrge, sUrg, a1, eT]
    by_cases k5 : I 114 (10 + 5 * p) = 5
    · by_cases hs : I 114 (50 + 7 * t) = I 114 (14 + 5 * p)
      · refine ⟨IV, ?_, hV2⟩
        have hs' : ¬ I 114 (14 + 5 * p) = nI p := fun z => hown (hs.trans z)
        simp [s_154, aILoad, aRLoad, aLLoad, aIStore, aRStore, aPush, aBin, aBinL, aShL, aUn, aIf, aIc, aGet, aPut, aIald, aBald, aAald, aIast, aBast, aAast, aAlen, aCopy, aCallV, aCallC, aCallI, aRet, aCat, aMax, aMin, aDiv, aRem, aI2l, aL2i, aNul, aSwS, aSw, aInc, aDup, aDup2, aPop1, aIret, aAret, aVret, aLen, aFk, aFT, Value.category, m_sh, m_p, r_its hp, r_of ht, hs', k5, hV1, sUrge, sUrg, a4, hs]
      · refine ⟨I, ?_, RF.rf⟩
        simp [s_154, aILoad, aRLoad, aLLoad, aIStore, aRStore, aPush, aBin, aBinL, aShL, aUn, aIf, aIc, aGet, aPut, aIald, aBald, aAald, aIast, aBast, aAast, aAlen, aCopy, aCallV, aCallC, aCallI, aRet, aCat, aMax, aMin, aDiv, aRem, aI2l, aL2i, aNul, aSwS, aSw, aInc, aDup, aDup2, aPop1, aIret, aAret, aVret, aLen, aFk, aFT, Value.category, m_sh, m_p, r_its hp, r_of ht, hown, k5, sUrge, sUrg, a4, hs]
    by_cases k6 : I 114 (10 + 5 * p) = 6
    · refine ⟨I, ?_, RF.rf⟩
      by_cases hm : I 114 (11 + 5 * p) ≤ I 114 (53 + 7 * t)
      · simp [s_154, aILoad, aRLoad, aLLoad, aIStore, aRStore, aPush, aBin, aBinL, aShL, aUn, aIf, aIc, aGet, aPut, aIald, aBald, aAald, aIast, aBast, aAast, aAlen, aCopy, aCallV, aCallC, aCallI, aRet, aCat, aMax, aMin, aDiv, aRem, aI2l, aL2i, aNul, aSwS, aSw, aInc, aDup, aDup2, aPop1, aIret, aAret, aVret, aLen, aFk, aFT, Value.category, m_sh, m_p, r_its hp, r_of ht, hown, k6, sUrge, sUrg, a1, b3, hm, Int32.not_lt.mpr hm]
      · simp [s_154, aILoad, aRLoad, aLLoad, aIStore, aRStore, aPush, aBin, aBinL, aShL, aUn, aIf, aIc, aGet, aPut, aIald, aBald, aAald, aIast, aBast, aAast, aAlen, aCopy, aCallV, aCallC, aCallI, aRet, aCat, aMax, aMin, aDiv, aRem, aI2l, aL2i, aNul, aSwS, aSw, aInc, aDup, aDup2, aPop1, aIret, aAret, aVret, aLen, aFk, aFT, Value.category, m_sh, m_p, r_its hp, r_of ht, hown, k6, sUrge, sUrg, a1, b3, hm, Int32.not_le.mp hm]
    · refine ⟨I, ?_, RF.rf⟩
      simp [s_154, aILoad, aRLoad, aLLoad, aIStore, aRStore, aPush, aBin, aBinL, aShL, aUn, aIf, aIc, aGet, aPut, aIald, aBald, aAald, aIast, aBast, aAast, aAlen, aCopy, aCallV, aCallC, aCallI, aRet, aCat, aMax, aMin, aDiv, aRem, aI2l, aL2i, aNul, aSwS, aSw, aInc, aDup, aDup2, aPop1, aIret, aAret, aVret, aLen, aFk, aFT, Value.category, m_sh, m_p, r_its hp, r_of ht, hown, k1, k2, k3, k4, k5, k6, hQ, sUrge, sUrg]
end REF6
