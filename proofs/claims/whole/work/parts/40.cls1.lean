/-! the class: its smallest methods, its laws -/
def isL (la : Nat) : Prop := la = 4 ∨ la = 8 ∨ la = 35 ∨ la = 39 ∨ la = 66 ∨ la = 70 ∨ la = 95
theorem la_sh {la : Nat} (h : isL la) : SH[la]? = some (1, 5) ∧ SH[la + 1]? = some (20, 60) ∧ SH[la + 2]? = some (20, 60) ∧ SH[la + 3]? = some (20, 60) := by
  rcases h with rfl | rfl | rfl | rfl | rfl | rfl | rfl <;> decide
theorem la_p {la : Nat} {x y : Option Nat} (h : isL la) : aP (PP x y) la 1 = some (la + 1) ∧ aP (PP x y) la 2 = some (la + 2) ∧ aP (PP x y) la 3 = some (la + 3) := by
  rcases h with rfl | rfl | rfl | rfl | rfl | rfl | rfl <;> exact ⟨rfl, rfl, rfl⟩
theorem c_sh : SH[0]? = some (7, 9) ∧ SH[94]? = some (3, 5) ∧ SH[95]? = some (1, 5) ∧ SH[100]? = some (6, 7) ∧ SH[101]? = some (20, 30) ∧ SH[102]? = some (24, 4) ∧ SH[103]? = some (20, 7) ∧ SH[104]? = some (20, 8) ∧ SH[1]? = some (0, 15) ∧ SH[32]? = some (0, 15) ∧ SH[63]? = some (0, 15) := by decide
theorem c_p {x y : Option Nat} : aP (PP x y) 0 0 = some 1 ∧ aP (PP x y) 0 1 = some 32 ∧ aP (PP x y) 0 2 = some 63 ∧ aP (PP x y) 0 3 = some 94 ∧ aP (PP x y) 0 4 = some 100 ∧ aP (PP x y) 0 5 = some 102 ∧ aP (PP x y) 0 6 = some 103 ∧ aP (PP x y) 0 7 = some 104 ∧ aP (PP x y) 94 0 = some 95 ∧ aP (PP x y) 94 1 = x ∧ aP (PP x y) 94 4 = y ∧ aP (PP x y) 100 0 = some 101 := ⟨rfl, rfl, rfl, rfl, rfl, rfl, rfl, rfl, rfl, rfl, rfl, rfl⟩
section CLS1
variable {d : Nat} {I : Nat → Nat → Int32} {x y : Option Nat}
theorem k_isIn {v l m : Int32} {H : aH} : aCall aMt (d + 1) 106 [.int v, .int l, .int m] H = some (some (.int (if l ≤ v ∧ v ≤ m then 1 else 0)), H) := by
  rw [e_106]
  by_cases h1 : v < l
  · simp [s_106, aILoad, aRLoad, aLLoad, aIStore, aRStore, aPush, aBin, aBinL, aShL, aUn, aIf, aIc, aGet, aPut, aIald, aBald, aAald, aIast, aBast, aAast, aAlen, aCopy, aCallV, aCallC, aCallI, aRet, aCat, aMax, aMin, aDiv, aRem, aI2l, aL2i, aNul, aSwS, aSw, aInc, aDup, aDup2, aPop1, aIret, aAret, aVret, aLen, aFk, aFT, Value.category, h1, Int32.not_le.mpr h1]
  · by_cases h2 : m < v
    · simp [s_106, aILoad, aRLoad, aLLoad, aIStore, aRStore, aPush, aBin, aBinL, aShL, aUn, aIf, aIc, aGet, aPut, aIald, aBald, aAald, aIast, aBast, aAast, aAlen, aCopy, aCallV, aCallC, aCallI, aRet, aCat, aMax, aMin, aDiv, aRem, aI2l, aL2i, aNul, aSwS, aSw, aInc, aDup, aDup2, aPop1, aIret, aAret, aVret, aLen, aFk, aFT, Value.category, h1, h2, Int32.not_le.mpr h2]
    · simp [s_106, aILoad, aRLoad, aLLoad, aIStore, aRStore, aPush, aBin, aBinL, aShL, aUn, aIf, aIc, aGet, aPut, aIald, aBald, aAald, aIast, aBast, aAast, aAlen, aCopy, aCallV, aCallC, aCallI, aRet, aCat, aMax, aMin, aDiv, aRem, aI2l, aL2i, aNul, aSwS, aSw, aInc, aDup, aDup2, aPop1, aIret, aAret, aVret, aLen, aFk, aFT, Value.category, h1, h2, Int32.not_lt.mp h1, Int32.not_lt.mp h2]
theorem k_isUse {v : Int32} {H : aH} : aCall aMt (d + 2) 107 [.int v] H = some (some (.int (if 0 ≤ v ∧ v ≤ 1 then 1 else 0)), H) := by
  rw [e_107]
  by_cases h : 0 ≤ v ∧ v ≤ 1 <;> simp [s_107, aILoad, aRLoad, aLLoad, aIStore, aRStore, aPush, aBin, aBinL, aShL, aUn, aIf, aIc, aGet, aPut, aIald, aBald, aAald, aIast, aBast, aAast, aAlen, aCopy, aCallV, aCallC, aCallI, aRet, aCat, aMax, aMin, aDiv, aRem, aI2l, aL2i, aNul, aSwS, aSw, aInc, aDup, aDup2, aPop1, aIret, aAret, aVret, aLen, aFk, aFT, Value.category, k_isIn, h]
theorem k_isKN {v : Int32} {H : aH} : aCall aMt (d + 2) 108 [.int v] H = some (some (.int (if 0 ≤ v ∧ v ≤ 69 then 1 else 0)), H) := by
  rw [e_108]
  by_cases h : 0 ≤ v ∧ v ≤ 69 <;> simp [s_108, aILoad, aRLoad, aLLoad, aIStore, aRStore, aPush, aBin, aBinL, aShL, aUn, aIf, aIc, aGet, aPut, aIald, aBald, aAald, aIast, aBast, aAast, aAlen, aCopy, aCallV, aCallC, aCallI, aRet, aCat, aMax, aMin, aDiv, aRem, aI2l, aL2i, aNul, aSwS, aSw, aInc, aDup, aDup2, aPop1, aIret, aAret, aVret, aLen, aFk, aFT, Value.category, k_isIn, h]
theorem k_refuse {n : Nat} {v : Int32} (h1 : 1 ≤ n) (h6 : n ≤ 6) (hv : (-1000000000) - v = nI n) : aCall aMt (d + 2) 105 [.ref 0, .int v] (HH I x y) = some (some (.int v), HH (aUpd I 103 n (I 103 n + 1)) x y) := by
  rw [e_105]
  have g1 : (1 : Int32) ≤ nI n := by rw [← nI_lit1]; exact nI_le h1 (by omega)
  have g2 : nI n ≤ (6 : Int32) := by rw [show (6 : Int32) = nI 6 from rfl]; exact nI_le h6 (by omega)
  simp [s_105, aILoad, aRLoad, aLLoad, aIStore, aRStore, aPush, aBin, aBinL, aShL, aUn, aIf, aIc, aGet, aPut, aIald, aBald, aAald, aIast, aBast, aAast, aAlen, aCopy, aCallV, aCallC, aCallI, aRet, aCat, aMax, aMin, aDiv, aRem, aI2l, aL2i, aNul, aSwS, aSw, aInc, aDup, aDup2, aPop1, aIret, aAret, aVret, aLen, aFk, aFT, Value.category, c_sh, c_p, k_isIn, hv, g1, g2, nI_pos' (n := n) (by omega), toNat_nI (show n < 2 ^ 31 by omega), show n < 7 by omega]
theorem k_hasText {la n : Nat} (h : isL la) (hn : I la 4 = nI n) (h60 : n < 2 ^ 31) : aCall aMt (d + 1) 21 [.ref la] (HH I x y) = some (some (.int (if n = 0 then 0 else 1)), HH I x y) := by
  rw [e_21]
  have s1 := la_sh h
  by_cases h0 : n = 0
  · subst h0
    simp [s_21, aILoad, aRLoad, aLLoad, aIStore, aRStore, aPush, aBin, aBinL, aShL, aUn, aIf, aIc, aGet, aPut, aIald, aBald, aAald, aIast, aBast, aAast, aAlen, aCopy, aCallV, aCallC, aCallI, aRet, aCat, aMax, aMin, aDiv, aRem, aI2l, aL2i, aNul, aSwS, aSw, aInc, aDup, aDup2, aPop1, aIret, aAret, aVret, aLen, aFk, aFT, Value.category, s1, hn, nI_lit0]
  · have h1 : ¬ nI n ≤ 0 := nI_nle (by omega) h60
    simp [s_21, aILoad, aRLoad, aLLoad, aIStore, aRStore, aPush, aBin, aBinL, aShL, aUn, aIf, aIc, aGet, aPut, aIald, aBald, aAald, aIast, aBast, aAast, aAlen, aCopy, aCallV, aCallC, aCallI, aRet, aCat, aMax, aMin, aDiv, aRem, aI2l, aL2i, aNul, aSwS, aSw, aInc, aDup, aDup2, aPop1, aIret, aAret, aVret, aLen, aFk, aFT, Value.category, s1, hn, h0, h1]
theorem k_clear {la : Nat} (h : isL la) : aCall aMt (d + 1) 20 [.ref la] (HH I x y) = some (none, HH (aUpd I la 4 0) x y) := by
  rw [e_20]
  simp [s_20, aILoad, aRLoad, aLLoad, aIStore, aRStore, aPush, aBin, aBinL, aShL, aUn, aIf, aIc, aGet, aPut, aIald, aBald, aAald, aIast, aBast, aAast, aAlen, aCopy, aCallV, aCallC, aCallI, aRet, aCat, aMax, aMin, aDiv, aRem, aI2l, aL2i, aNul, aSwS, aSw, aInc, aDup, aDup2, aPop1, aIret, aAret, aVret, aLen, aFk, aFT, Value.category, la_sh h]
theorem k_append {la n : Nat} {a b : Int32} (h : isL la) (hn : I la 4 = nI n) (h60 : n < 60) : aCall aMt (d + 1) 23 [.ref la, .int a, .int b] (HH I x y) = some (none, HH (aUpd (aUpd (aUpd I (la + 1) n a) (la + 2) n b) la 4 (nI (n + 1))) x y) := by
  rw [e_23]
  have h1 : ¬ (60 : Int32) ≤ nI n := by rw [show (60 : Int32) = nI 60 from rfl]; exact nI_ge h60 (by omega)
  have r1 : ∀ (J : Nat → Nat → Int32) k v, aUpd J (la + 1) k v la = J la := fun J k v => aUpd_ne (by omega)
  have r2 : ∀ (J : Nat → Nat → Int32) k v, aUpd J (la + 2) k v la = J la := fun J k v => aUpd_ne (by omega)
  simp [s_23, aILoad, aRLoad, aLLoad, aIStore, aRStore, aPush, aBin, aBinL, aShL, aUn, aIf, aIc, aGet, aPut, aIald, aBald, aAald, aIast, aBast, aAast, aAlen, aCopy, aCallV, aCallC, aCallI, aRet, aCat, aMax, aMin, aDiv, aRem, aI2l, aL2i, aNul, aSwS, aSw, aInc, aDup, aDup2, aPop1, aIret, aAret, aVret, aLen, aFk, aFT, Value.category, la_sh h, la_p h, hn, h1, r1, r2, nI_pos' (n := n) (by omega), toNat_nI (show n < 2 ^ 31 by omega), h60, nI_1]
theorem k_named {p a b c : Int32} {H : aH} : aCall aMt (d + 1) 26 [.int p, .int a, .int b, .int c] H = some (some (.int (if p = 0 then a else if p = 1 then b else c)), H) := by
  rw [e_26]
  by_cases h0 : p = 0
  · simp [s_26, aILoad, aRLoad, aLLoad, aIStore, aRStore, aPush, aBin, aBinL, aShL, aUn, aIf, aIc, aGet, aPut, aIald, aBald, aAald, aIast, aBast, aAast, aAlen, aCopy, aCallV, aCallC, aCallI, aRet, aCat, aMax, aMin, aDiv, aRem, aI2l, aL2i, aNul, aSwS, aSw, aInc, aDup, aDup2, aPop1, aIret, aAret, aVret, aLen, aFk, aFT, Value.category, h0]
  · by_cases h1 : p = 1 <;> simp [s_26, aILoad, aRLoad, aLLoad, aIStore, aRStore, aPush, aBin, aBinL, aShL, aUn, aIf, aIc, aGet, aPut, aIald, aBald, aAald, aIast, aBast, aAast, aAlen, aCopy, aCallV, aCallC, aCallI, aRet, aCat, aMax, aMin, aDiv, aRem, aI2l, aL2i, aNul, aSwS, aSw, aInc, aDup, aDup2, aPop1, aIret, aAret, aVret, aLen, aFk, aFT, Value.category, h0, h1]
theorem i32_div_m1 (a : Int32) : a / (-1) = -a := by
  apply Int32.toInt_inj.mp
  rw [Int32.toInt_div, show (-1 : Int32).toInt = -1 from rfl, Int.tdiv_neg, Int.tdiv_one, Int32.toInt_neg]
theorem i32_rem_m1 (a : Int32) : a - a / (-1) * (-1) = 0 := by
  rw [i32_div_m1, Int32.mul_neg, Int32.mul_one, Int32.neg_neg, Int32.sub_self]
theorem k_joined {c a b : Int32} {H : aH} (hc : isSign c) : aCall aMt (d + 1) 27 [.int c, .int a, .int b] H = some (some (.int (sJoin c a b)), H) := by
  rw [e_27]
  rcases hc with rfl | rfl | rfl | rfl | rfl | rfl | rfl | rfl | rfl | rfl
  · by_cases h0 : b = 0
    · simp [s_27, aILoad, aRLoad, aLLoad, aIStore, aRStore, aPush, aBin, aBinL, aShL, aUn, aIf, aIc, aGet, aPut, aIald, aBald, aAald, aIast, aBast, aAast, aAlen, aCopy, aCallV, aCallC, aCallI, aRet, aCat, aMax, aMin, aDiv, aRem, aI2l, aL2i, aNul, aSwS, aSw, aInc, aDup, aDup2, aPop1, aIret, aAret, aVret, aLen, aFk, aFT, Value.category, h0, sJoin]
    · by_cases h1 : b = -1
      · subst h1
        have := i32_rem_m1 a
        simp [s_27, aILoad, aRLoad, aLLoad, aIStore, aRStore, aPush, aBin, aBinL, aShL, aUn, aIf, aIc, aGet, aPut, aIald, aBald, aAald, aIast, aBast, aAast, aAlen, aCopy, aCallV, aCallC, aCallI, aRet, aCat, aMax, aMin, aDiv, aRem, aI2l, aL2i, aNul, aSwS, aSw, aInc, aDup, aDup2, aPop1, aIret, aAret, aVret, aLen, aFk, aFT, Value.category, sJoin, this]
      · simp [s_27, aILoad, aRLoad, aLLoad, aIStore, aRStore, aPush, aBin, aBinL, aShL, aUn, aIf, aIc, aGet, aPut, aIald, aBald, aAald, aIast, aBast, aAast, aAlen, aCopy, aCallV, aCallC, aCallI, aRet, aCat, aMax, aMin, aDiv, aRem, aI2l, aL2i, aNul, aSwS, aSw, aInc, aDup, aDup2, aPop1, aIret, aAret, aVret, aLen, aFk, aFT, Value.category, h0, h1, sJoin]
  · by_cases h0 : a = 0
    · simp [s_27, aILoad, aRLoad, aLLoad, aIStore, aRStore, aPush, aBin, aBinL, aShL, aUn, aIf, aIc, aGet, aPut, aIald, aBald, aAald, aIast, aBast, aAast, aAlen, aCopy, aCallV, aCallC, aCallI, aRet, aCat, aMax, aMin, aDiv, aRem, aI2l, aL2i, aNul, aSwS, aSw, aInc, aDup, aDup2, aPop1, aIret, aAret, aVret, aLen, aFk, aFT, Value.category, h0, sJoin]
    · by_cases h1 : b = 0 <;> simp [s_27, aILoad, aRLoad, aLLoad, aIStore, aRStore, aPush, aBin, aBinL, aShL, aUn, aIf, aIc, aGet, aPut, aIald, aBald, aAald, aIast, aBast, aAast, aAlen, aCopy, aCallV, aCallC, aCallI, aRet, aCat, aMax, aMin, aDiv, aRem, aI2l, aL2i, aNul, aSwS, aSw, aInc, aDup, aDup2, aPop1, aIret, aAret, aVret, aLen, aFk, aFT, Value.category, h0, h1, sJoin]
  · simp [s_27, aILoad, aRLoad, aLLoad, aIStore, aRStore, aPush, aBin, aBinL, aShL, aUn, aIf, aIc, aGet, aPut, aIald, aBald, aAald, aIast, aBast, aAast, aAlen, aCopy, aCallV, aCallC, aCallI, aRet, aCat, aMax, aMin, aDiv, aRem, aI2l, aL2i, aNul, aSwS, aSw, aInc, aDup, aDup2, aPop1, aIret, aAret, aVret, aLen, aFk, aFT, Value.category, sJoin]
  · simp [s_27, aILoad, aRLoad, aLLoad, aIStore, aRStore, aPush, aBin, aBinL, aShL, aUn, aIf, aIc, aGet, aPut, aIald, aBald, aAald, aIast, aBast, aAast, aAlen, aCopy, aCallV, aCallC, aCallI, aRet, aCat, aMax, aMin, aDiv, aRem, aI2l, aL2i, aNul, aSwS, aSw, aInc, aDup, aDup2, aPop1, aIret, aAret, aVret, aLen, aFk, aFT, Value.category, sJoin]
  · simp [s_27, aILoad, aRLoad, aLLoad, aIStore, aRStore, aPush, aBin, aBinL, aShL, aUn, aIf, aIc, aGet, aPut, aIald, aBald, aAald, aIast, aBast, aAast, aAlen, aCopy, aCallV, aCallC, aCallI, aRet, aCat, aMax, aMin, aDiv, aRem, aI2l, aL2i, aNul, aSwS, aSw, aInc, aDup, aDup2, aPop1, aIret, aAret, aVret, aLen, aFk, aFT, Value.category, sJoin]
  · by_cases h0 : b = 0
    · simp [s_27, aILoad, aRLoad, aLLoad, aIStore, aRStore, aPush, aBin, aBinL, aShL, aUn, aIf, aIc, aGet, aPut, aIald, aBald, aAald, aIast, aBast, aAast, aAlen, aCopy, aCallV, aCallC, aCallI, aRet, aCat, aMax, aMin, aDiv, aRem, aI2l, aL2i, aNul, aSwS, aSw, aInc, aDup, aDup2, aPop1, aIret, aAret, aVret, aLen, aFk, aFT, Value.category, h0, sJoin]
    · by_cases h1 : b = -1
      · subst h1
        have := i32_div_m1 a
        simp [s_27, aILoad, aRLoad, aLLoad, aIStore, aRStore, aPush, aBin, aBinL, aShL, aUn, aIf, aIc, aGet, aPut, aIald, aBald, aAald, aIast, aBast, aAast, aAlen, aCopy, aCallV, aCallC, aCallI, aRet, aCat, aMax, aMin, aDiv, aRem, aI2l, aL2i, aNul, aSwS, aSw, aInc, aDup, aDup2, aPop1, aIret, aAret, aVret, aLen, aFk, aFT, Value.category, sJoin, this]
      · simp [s_27, aILoad, aRLoad, aLLoad, aIStore, aRStore, aPush, aBin, aBinL, aShL, aUn, aIf, aIc, aGet, aPut, aIald, aBald, aAald, aIast, aBast, aAast, aAlen, aCopy, aCallV, aCallC, aCallI, aRet, aCat, aMax, aMin, aDiv, aRem, aI2l, aL2i, aNul, aSwS, aSw, aInc, aDup, aDup2, aPop1, aIret, aAret, aVret, aLen, aFk, aFT, Value.category, h0, h1, sJoin]
  · by_cases h0 : b ≤ a
    · simp [s_27, aILoad, aRLoad, aLLoad, aIStore, aRStore, aPush, aBin, aBinL, aShL, aUn, aIf, aIc, aGet, aPut, aIald, aBald, aAald, aIast, aBast, aAast, aAlen, aCopy, aCallV, aCallC, aCallI, aRet, aCat, aMax, aMin, aDiv, aRem, aI2l, aL2i, aNul, aSwS, aSw, aInc, aDup, aDup2, aPop1, aIret, aAret, aVret, aLen, aFk, aFT, Value.category, h0, Int32.not_lt.mpr h0, sJoin]
    · simp [s_27, aILoad, aRLoad, aLLoad, aIStore, aRStore, aPush, aBin, aBinL, aShL, aUn, aIf, aIc, aGet, aPut, aIald, aBald, aAald, aIast, aBast, aAast, aAlen, aCopy, aCallV, aCallC, aCallI, aRet, aCat, aMax, aMin, aDiv, aRem, aI2l, aL2i, aNul, aSwS, aSw, aInc, aDup, aDup2, aPop1, aIret, aAret, aVret, aLen, aFk, aFT, Value.category, h0, Int32.not_le.mp h0, sJoin]
  · by_cases h0 : a = b <;> simp [s_27, aILoad, aRLoad, aLLoad, aIStore, aRStore, aPush, aBin, aBinL, aShL, aUn, aIf, aIc, aGet, aPut, aIald, aBald, aAald, aIast, aBast, aAast, aAlen, aCopy, aCallV, aCallC, aCallI, aRet, aCat, aMax, aMin, aDiv, aRem, aI2l, aL2i, aNul, aSwS, aSw, aInc, aDup, aDup2, aPop1, aIret, aAret, aVret, aLen, aFk, aFT, Value.category, h0, sJoin]
  · by_cases h0 : a ≤ b
    · simp [s_27, aILoad, aRLoad, aLLoad, aIStore, aRStore, aPush, aBin, aBinL, aShL, aUn, aIf, aIc, aGet, aPut, aIald, aBald, aAald, aIast, aBast, aAast, aAlen, aCopy, aCallV, aCallC, aCallI, aRet, aCat, aMax, aMin, aDiv, aRem, aI2l, aL2i, aNul, aSwS, aSw, aInc, aDup, aDup2, aPop1, aIret, aAret, aVret, aLen, aFk, aFT, Value.category, h0, Int32.not_lt.mpr h0, sJoin]
    · simp [s_27, aILoad, aRLoad, aLLoad, aIStore, aRStore, aPush, aBin, aBinL, aShL, aUn, aIf, aIc, aGet, aPut, aIald, aBald, aAald, aIast, aBast, aAast, aAlen, aCopy, aCallV, aCallC, aCallI, aRet, aCat, aMax, aMin, aDiv, aRem, aI2l, aL2i, aNul, aSwS, aSw, aInc, aDup, aDup2, aPop1, aIret, aAret, aVret, aLen, aFk, aFT, Value.category, h0, Int32.not_le.mp h0, sJoin]
  · by_cases h0 : a = 0
    · by_cases h1 : b = 0 <;> simp [s_27, aILoad, aRLoad, aLLoad, aIStore, aRStore, aPush, aBin, aBinL, aShL, aUn, aIf, aIc, aGet, aPut, aIald, aBald, aAald, aIast, aBast, aAast, aAlen, aCopy, aCallV, aCallC, aCallI, aRet, aCat, aMax, aMin, aDiv, aRem, aI2l, aL2i, aNul, aSwS, aSw, aInc, aDup, aDup2, aPop1, aIret, aAret, aVret, aLen, aFk, aFT, Value.category, h0, h1, sJoin]
    · simp [s_27, aILoad, aRLoad, aLLoad, aIStore, aRStore, aPush, aBin, aBinL, aShL, aUn, aIf, aIc, aGet, aPut, aIald, aBald, aAald, aIast, aBast, aAast, aAlen, aCopy, aCallV, aCallC, aCallI, aRet, aCat, aMax, aMin, aDiv, aRem, aI2l, aL2i, aNul, aSwS, aSw, aInc, aDup, aDup2, aPop1, aIret, aAret, aVret, aLen, aFk, aFT, Value.category, h0, sJoin]
end CLS1
