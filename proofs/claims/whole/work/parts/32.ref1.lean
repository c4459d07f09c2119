/-! the reference: its smallest methods -/
theorem aUpd2_ne {I : Nat → Nat → Int32} {a k b j : Nat} {v : Int32} (h : b ≠ a) : aUpd I a k v b j = I b j := by rw [aUpd_ne h]
theorem aUpd2_eq {I : Nat → Nat → Int32} {a k j : Nat} {v : Int32} : aUpd I a k v a j = if j = k then v else I a j := by rw [aUpd_row]; rfl
theorem nI_lit0 : nI 0 = 0 := rfl
theorem nI_lit1 : nI 1 = 1 := rfl
/-- indices -/
theorem ix_p {p : Nat} {w : Int32} (hp : p < 8) (h0 : 0 ≤ w) (h5 : w.toNatClampNeg < 5) : (10 + 5 * nI p + w) = nI (10 + 5 * p + w.toNatClampNeg) := by
  obtain ⟨n, hn, rfl⟩ := nI_of (x := w) (Int32.not_lt.mpr h0)
  rw [toNat_nI hn, show (10 : Int32) = nI 10 from rfl, show (5 : Int32) = nI 5 from rfl, pk_mul, nI_add, nI_add]
theorem ix_t {t : Nat} {w : Int32} (ht : t < 10) (h0 : 0 ≤ w) (h5 : w.toNatClampNeg < 7) : (50 + 7 * nI t + w) = nI (50 + 7 * t + w.toNatClampNeg) := by
  obtain ⟨n, hn, rfl⟩ := nI_of (x := w) (Int32.not_lt.mpr h0)
  rw [toNat_nI hn, show (50 : Int32) = nI 50 from rfl, show (7 : Int32) = nI 7 from rfl, pk_mul, nI_add, nI_add]
theorem nI_in' {n N : Nat} (h : n < N) (hN : N ≤ 2 ^ 30) : (nI n < 0 ∨ N ≤ (nI n).toNatClampNeg) = False := eq_false (by rw [toNat_nI (by omega)]; exact fun z => z.elim (nI_pos (by omega)) (by omega))
theorem nI_in0 {n : Nat} (h : n < 2 ^ 30) : 0 ≤ nI n := nI_pos' (by omega)
section REF2
variable {d : Nat} {I : Nat → Nat → Int32} {x y : Option Nat}
theorem r_isPerson {v : Int32} : aCall aMt (d + 2) 122 [.ref 113, .int v] (HH I x y) = some (some (.int (if 0 ≤ v ∧ v ≤ I 114 7 - 1 then 1 else 0)), HH I x y) := by
  rw [e_122]
  simp [s_122, aILoad, aRLoad, aLLoad, aIStore, aRStore, aPush, aBin, aBinL, aShL, aUn, aIf, aIc, aGet, aPut, aIald, aBald, aAald, aIast, aBast, aAast, aAlen, aCopy, aCallV, aCallC, aCallI, aRet, aCat, aMax, aMin, aDiv, aRem, aI2l, aL2i, aNul, aSwS, aSw, aInc, aDup, aDup2, aPop1, aIret, aAret, aVret, aLen, aFk, aFT, Value.category, m_sh, m_p, r_in]
theorem r_isThing {v : Int32} : aCall aMt (d + 2) 123 [.ref 113, .int v] (HH I x y) = some (some (.int (if 0 ≤ v ∧ v ≤ I 114 8 - 1 then 1 else 0)), HH I x y) := by
  rw [e_123]
  simp [s_123, aILoad, aRLoad, aLLoad, aIStore, aRStore, aPush, aBin, aBinL, aShL, aUn, aIf, aIc, aGet, aPut, aIald, aBald, aAald, aIast, aBast, aAast, aAlen, aCopy, aCallV, aCallC, aCallI, aRet, aCat, aMax, aMin, aDiv, aRem, aI2l, aL2i, aNul, aSwS, aSw, aInc, aDup, aDup2, aPop1, aIret, aAret, aVret, aLen, aFk, aFT, Value.category, m_sh, m_p, r_in]
theorem r_its {p : Nat} {w : Int32} (hp : p < 8) (h0 : 0 ≤ w) (h5 : w.toNatClampNeg < 5) : aCall aMt (d + 1) 124 [.ref 113, .int (nI p), .int w] (HH I x y) = some (some (.int (I 114 (10 + 5 * p + w.toNatClampNeg))), HH I x y) := by
  rw [e_124]
  have h1 := ix_p hp h0 h5
  have h2 : 10 + 5 * p + w.toNatClampNeg < 454 := by omega
  simp [s_124, aILoad, aRLoad, aLLoad, aIStore, aRStore, aPush, aBin, aBinL, aShL, aUn, aIf, aIc, aGet, aPut, aIald, aBald, aAald, aIast, aBast, aAast, aAlen, aCopy, aCallV, aCallC, aCallI, aRet, aCat, aMax, aMin, aDiv, aRem, aI2l, aL2i, aNul, aSwS, aSw, aInc, aDup, aDup2, aPop1, aIret, aAret, aVret, aLen, aFk, aFT, Value.category, m_sh, m_p, h1, h2, nI_pos' (n := 10 + 5 * p + w.toNatClampNeg) (by omega), toNat_nI (show 10 + 5 * p + w.toNatClampNeg < 2 ^ 31 by omega)]
theorem r_lays1 {p : Nat} {w v : Int32} (hp : p < 8) (h0 : 0 ≤ w) (h5 : w.toNatClampNeg < 5) : aCall aMt (d + 1) 125 [.ref 113, .int (nI p), .int w, .int v] (HH I x y) = some (none, HH (aUpd I 114 (10 + 5 * p + w.toNatClampNeg) v) x y) := by
  rw [e_125]
  have h1 := ix_p hp h0 h5
  have h2 : 10 + 5 * p + w.toNatClampNeg < 454 := by omega
  simp [s_125, aILoad, aRLoad, aLLoad, aIStore, aRStore, aPush, aBin, aBinL, aShL, aUn, aIf, aIc, aGet, aPut, aIald, aBald, aAald, aIast, aBast, aAast, aAlen, aCopy, aCallV, aCallC, aCallI, aRet, aCat, aMax, aMin, aDiv, aRem, aI2l, aL2i, aNul, aSwS, aSw, aInc, aDup, aDup2, aPop1, aIret, aAret, aVret, aLen, aFk, aFT, Value.category, m_sh, m_p, h1, h2, nI_pos' (n := 10 + 5 * p + w.toNatClampNeg) (by omega), toNat_nI (show 10 + 5 * p + w.toNatClampNeg < 2 ^ 31 by omega)]
theorem r_of {p : Nat} {w : Int32} (hp : p < 10) (h0 : 0 ≤ w) (h5 : w.toNatClampNeg < 7) : aCall aMt (d + 1) 126 [.ref 113, .int (nI p), .int w] (HH I x y) = some (some (.int (I 114 (50 + 7 * p + w.toNatClampNeg))), HH I x y) := by
  rw [e_126]
  have h1 := ix_t hp h0 h5
  have h2 : 50 + 7 * p + w.toNatClampNeg < 454 := by omega
  simp [s_126, aILoad, aRLoad, aLLoad, aIStore, aRStore, aPush, aBin, aBinL, aShL, aUn, aIf, aIc, aGet, aPut, aIald, aBald, aAald, aIast, aBast, aAast, aAlen, aCopy, aCallV, aCallC, aCallI, aRet, aCat, aMax, aMin, aDiv, aRem, aI2l, aL2i, aNul, aSwS, aSw, aInc, aDup, aDup2, aPop1, aIret, aAret, aVret, aLen, aFk, aFT, Value.category, m_sh, m_p, h1, h2, nI_pos' (n := 50 + 7 * p + w.toNatClampNeg) (by omega), toNat_nI (show 50 + 7 * p + w.toNatClampNeg < 2 ^ 31 by omega)]
theorem r_lays2 {p : Nat} {w v : Int32} (hp : p < 10) (h0 : 0 ≤ w) (h5 : w.toNatClampNeg < 7) : aCall aMt (d + 1) 127 [.ref 113, .int (nI p), .int w, .int v] (HH I x y) = some (none, HH (aUpd I 114 (50 + 7 * p + w.toNatClampNeg) v) x y) := by
  rw [e_127]
  have h1 := ix_t hp h0 h5
  have h2 : 50 + 7 * p + w.toNatClampNeg < 454 := by omega
  simp [s_127, aILoad, aRLoad, aLLoad, aIStore, aRStore, aPush, aBin, aBinL, aShL, aUn, aIf, aIc, aGet, aPut, aIald, aBald, aAald, aIast, aBast, aAast, aAlen, aCopy, aCallV, aCallC, aCallI, aRet, aCat, aMax, aMin, aDiv, aRem, aI2l, aL2i, aNul, aSwS, aSw, aInc, aDup, aDup2, aPop1, aIret, aAret, aVret, aLen, aFk, aFT, Value.category, m_sh, m_p, h1, h2, nI_pos' (n := 50 + 7 * p + w.toNatClampNeg) (by omega), toNat_nI (show 50 + 7 * p + w.toNatClampNeg < 2 ^ 31 by omega)]
theorem r_change {k : Nat} {v : Int32} (hk : k < 454) : aCall aMt (d + 1) 128 [.ref 113, .int (nI k), .int v] (HH I x y) = some (some (.int (I 114 k)), HH (aUpd I 114 k v) x y) := by
  rw [e_128]
  simp [s_128, aILoad, aRLoad, aLLoad, aIStore, aRStore, aPush, aBin, aBinL, aShL, aUn, aIf, aIc, aGet, aPut, aIald, aBald, aAald, aIast, aBast, aAast, aAlen, aCopy, aCallV, aCallC, aCallI, aRet, aCat, aMax, aMin, aDiv, aRem, aI2l, aL2i, aNul, aSwS, aSw, aInc, aDup, aDup2, aPop1, aIret, aAret, aVret, aLen, aFk, aFT, Value.category, m_sh, m_p, hk, nI_pos' (n := k) (by omega), toNat_nI (show k < 2 ^ 31 by omega)]
theorem r_isThere {p : Nat} (hp : p < 10) : aCall aMt (d + 2) 129 [.ref 113, .int (nI p)] (HH I x y) = some (some (.int (if I 114 (55 + 7 * p) = 1 then 1 else 0)), HH I x y) := by
  rw [e_129]
  have e : 50 + 7 * p + 5 = 55 + 7 * p := by omega
  by_cases h : I 114 (55 + 7 * p) = 1 <;> simp [s_129, aILoad, aRLoad, aLLoad, aIStore, aRStore, aPush, aBin, aBinL, aShL, aUn, aIf, aIc, aGet, aPut, aIald, aBald, aAald, aIast, aBast, aAast, aAlen, aCopy, aCallV, aCallC, aCallI, aRet, aCat, aMax, aMin, aDiv, aRem, aI2l, aL2i, aNul, aSwS, aSw, aInc, aDup, aDup2, aPop1, aIret, aAret, aVret, aLen, aFk, aFT, Value.category, m_sh, m_p, r_of, hp, h, e]
end REF2
