/-! small numbers, stores, the reference's cells -/
abbrev HH (I : Nat → Nat → Int32) (x y : Option Nat) : aH := (SH, I, PP x y)
theorem aUpd_ne {I : Nat → Nat → Int32} {a k b : Nat} {x : Int32} (h : b ≠ a) : aUpd I a k x b = I b := by funext j; simp [aUpd, h]
theorem upd_eq {f : Nat → Int32} {k : Nat} {x : Int32} : upd f k x k = x := if_pos rfl
theorem upd_ne {f : Nat → Int32} {k j : Nat} {x : Int32} (h : j ≠ k) : upd f k x j = f j := if_neg h
theorem toNat_nI {n : Nat} (h : n < 2 ^ 31) : (nI n).toNatClampNeg = n := nI_clamp h
theorem nI_lt0 {n : Nat} (h : n < 2 ^ 31) : (nI n < 0) = False := eq_false (nI_pos h)
theorem nI_inj {a b : Nat} (ha : a < 2 ^ 31) (hb : b < 2 ^ 31) : (nI a = nI b) = (a = b) := propext (nI_eq ha hb)
theorem nI_ltE {a b : Nat} (ha : a < 2 ^ 31) (hb : b < 2 ^ 31) : (nI a < nI b) = (a < b) := propext (nI_ltI ha hb)
theorem nI_leE {a b : Nat} (ha : a < 2 ^ 31) (hb : b < 2 ^ 31) : (nI a ≤ nI b) = (a ≤ b) := propext (nI_leI ha hb)
/-- a number in a row's range -/
theorem isIx {v : Int32} {n : Nat} (hn : n < 2 ^ 31) : (0 ≤ v ∧ v ≤ nI n - 1) ↔ ∃ p, p < n ∧ v = nI p := by
  have h1 : (nI n - 1).toInt = (n : Int) - 1 := by
    have := Int32.toInt_sub (nI n) 1
    rw [this, nI_toInt hn]
    rw [show (1 : Int32).toInt = 1 from rfl]
    exact Int.bmod_eq_of_le (by omega) (by omega)
  constructor
  · rintro ⟨h2, h3⟩
    have h2' := Int32.le_iff_toInt_le.mp h2
    have h3' := Int32.le_iff_toInt_le.mp h3
    rw [h1] at h3'
    rw [show (0 : Int32).toInt = 0 from rfl] at h2'
    obtain ⟨j, hj, rfl⟩ := nI_of (x := v) (fun z => absurd (Int32.lt_iff_toInt_lt.mp z) (by rw [show (0 : Int32).toInt = 0 from rfl]; omega))
    rw [nI_toInt hj] at h3'
    exact ⟨j, by omega, rfl⟩
  · rintro ⟨p, hp, rfl⟩
    exact ⟨nI_pos' (by omega), Int32.le_iff_toInt_le.mpr (by rw [h1, nI_toInt (by omega)]; omega)⟩
theorem isIn' {v : Int32} {a b : Nat} (hb : b < 2 ^ 31) (ha : a ≤ b) : (nI a ≤ v ∧ v ≤ nI b) ↔ ∃ p, a ≤ p ∧ p ≤ b ∧ v = nI p := by
  constructor
  · rintro ⟨h2, h3⟩
    have h2' := Int32.le_iff_toInt_le.mp h2
    have h3' := Int32.le_iff_toInt_le.mp h3
    rw [nI_toInt hb] at h3'
    rw [nI_toInt (by omega)] at h2'
    obtain ⟨j, hj, rfl⟩ := nI_of (x := v) (fun z => absurd (Int32.lt_iff_toInt_lt.mp z) (by rw [show (0 : Int32).toInt = 0 from rfl]; omega))
    rw [nI_toInt hj] at h3' h2'
    exact ⟨j, by omega, by omega, rfl⟩
  · rintro ⟨p, hp, hq, rfl⟩
    exact ⟨nI_le hp (by omega), nI_le hq (by omega)⟩
/-! the reference's cells -/
theorem m_sh : SH[113]? = some (8, 22) ∧ SH[114]? = some (20, 454) ∧ SH[115]? = some (20, 454) ∧ SH[116]? = some (20, 120) ∧ SH[117]? = some (20, 7) ∧ SH[118]? = some (20, 124) ∧ SH[119]? = some (20, 128) ∧ SH[120]? = some (20, 64) ∧ SH[121]? = some (20, 80) ∧ SH[122]? = some (20, 8) ∧ SH[123]? = some (20, 30) ∧ SH[124]? = some (20, 4) ∧ SH[125]? = some (20, 4) ∧ SH[126]? = some (20, 96) ∧ SH[127]? = some (20, 24) := by decide
theorem m_p {x y : Option Nat} : aP (PP x y) 113 0 = some 114 ∧ aP (PP x y) 113 1 = some 115 ∧ aP (PP x y) 113 2 = some 116 ∧ aP (PP x y) 113 4 = some 117 ∧ aP (PP x y) 113 9 = some 118 ∧ aP (PP x y) 113 10 = some 119 ∧ aP (PP x y) 113 11 = some 120 ∧ aP (PP x y) 113 12 = some 121 ∧ aP (PP x y) 113 13 = some 122 ∧ aP (PP x y) 113 15 = some 123 ∧ aP (PP x y) 113 18 = some 124 ∧ aP (PP x y) 113 19 = some 125 ∧ aP (PP x y) 113 20 = some 126 ∧ aP (PP x y) 113 21 = some 127 := ⟨rfl, rfl, rfl, rfl, rfl, rfl, rfl, rfl, rfl, rfl, rfl, rfl, rfl, rfl⟩
section REF1
variable {d : Nat} {I : Nat → Nat → Int32} {x y : Option Nat}
theorem r_in {v l m : Int32} {H : aH} : aCall aMt (d + 1) 117 [.int v, .int l, .int m] H = some (some (.int (if l ≤ v ∧ v ≤ m then 1 else 0)), H) := by
  rw [e_117]
  by_cases h1 : v < l
  · simp [s_117, aILoad, aRLoad, aLLoad, aIStore, aRStore, aPush, aBin, aBinL, aShL, aUn, aIf, aIc, aGet, aPut, aIald, aBald, aAald, aIast, aBast, aAast, aAlen, aCopy, aCallV, aCallC, aCallI, aRet, aCat, aMax, aMin, aDiv, aRem, aI2l, aL2i, aNul, aSwS, aSw, aInc, aDup, aDup2, aPop1, aIret, aAret, aVret, aLen, aFk, aFT, Value.category, h1, Int32.not_le.mpr h1]
  · by_cases h2 : m < v
    · simp [s_117, aILoad, aRLoad, aLLoad, aIStore, aRStore, aPush, aBin, aBinL, aShL, aUn, aIf, aIc, aGet, aPut, aIald, aBald, aAald, aIast, aBast, aAast, aAlen, aCopy, aCallV, aCallC, aCallI, aRet, aCat, aMax, aMin, aDiv, aRem, aI2l, aL2i, aNul, aSwS, aSw, aInc, aDup, aDup2, aPop1, aIret, aAret, aVret, aLen, aFk, aFT, Value.category, h1, h2, Int32.not_le.mpr h2]
    · simp [s_117, aILoad, aRLoad, aLLoad, aIStore, aRStore, aPush, aBin, aBinL, aShL, aUn, aIf, aIc, aGet, aPut, aIald, aBald, aAald, aIast, aBast, aAast, aAlen, aCopy, aCallV, aCallC, aCallI, aRet, aCat, aMax, aMin, aDiv, aRem, aI2l, aL2i, aNul, aSwS, aSw, aInc, aDup, aDup2, aPop1, aIret, aAret, aVret, aLen, aFk, aFT, Value.category, h1, h2, Int32.not_lt.mp h1, Int32.not_lt.mp h2]
theorem r_held {v l m : Int32} {H : aH} : aCall aMt (d + 1) 118 [.int v, .int l, .int m] H = some (some (.int (if l ≤ v then (if v ≤ m then v else m) else l)), H) := by
  rw [e_118]
  by_cases h1 : l ≤ v
  · by_cases h2 : v ≤ m <;> simp [s_118, aILoad, aRLoad, aLLoad, aIStore, aRStore, aPush, aBin, aBinL, aShL, aUn, aIf, aIc, aGet, aPut, aIald, aBald, aAald, aIast, aBast, aAast, aAlen, aCopy, aCallV, aCallC, aCallI, aRet, aCat, aMax, aMin, aDiv, aRem, aI2l, aL2i, aNul, aSwS, aSw, aInc, aDup, aDup2, aPop1, aIret, aAret, aVret, aLen, aFk, aFT, Value.category, h1, h2]
  · simp [s_118, aILoad, aRLoad, aLLoad, aIStore, aRStore, aPush, aBin, aBinL, aShL, aUn, aIf, aIc, aGet, aPut, aIald, aBald, aAald, aIast, aBast, aAast, aAlen, aCopy, aCallV, aCallC, aCallI, aRet, aCat, aMax, aMin, aDiv, aRem, aI2l, aL2i, aNul, aSwS, aSw, aInc, aDup, aDup2, aPop1, aIret, aAret, aVret, aLen, aFk, aFT, Value.category, h1]
theorem r_error {n : Nat} (hn : n < 7) : aCall aMt (d + 1) 116 [.ref 113, .int (nI n)] (HH I x y) = some (some (.int (-1000000000 - nI n)), HH (aUpd I 117 n (I 117 n + 1)) x y) := by
  rw [e_116]
  have h1 : ¬ (nI n < 0 ∨ 7 ≤ (nI n).toNatClampNeg) := by
    rw [toNat_nI (by omega)]; exact fun z => z.elim (nI_pos (by omega)) (by omega)
  have h2 : (nI n).toNatClampNeg = n := toNat_nI (by omega)
  simp only [not_or] at h1
  simp [s_116, aILoad, aRLoad, aLLoad, aIStore, aRStore, aPush, aBin, aBinL, aShL, aUn, aIf, aIc, aGet, aPut, aIald, aBald, aAald, aIast, aBast, aAast, aAlen, aCopy, aCallV, aCallC, aCallI, aRet, aCat, aMax, aMin, aDiv, aRem, aI2l, aL2i, aNul, aSwS, aSw, aInc, aDup, aDup2, aPop1, aIret, aAret, aVret, aLen, aFk, aFT, Value.category, m_sh, m_p, h1, h2, hn]
end REF1
