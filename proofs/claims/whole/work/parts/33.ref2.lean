/-! the reference: counting, kinds -/
def cnt (f : Nat → Bool) : Nat → Nat
  | 0 => 0
  | n + 1 => cnt f n + (if f n then 1 else 0)
theorem cnt_le (f : Nat → Bool) : ∀ n, cnt f n ≤ n
  | 0 => Nat.le_refl 0
  | n + 1 => by have := cnt_le f n; rw [cnt]; split <;> omega
theorem cnt_congr {f g : Nat → Bool} : ∀ {n : Nat}, (∀ k, k < n → f k = g k) → cnt f n = cnt g n
  | 0, _ => rfl
  | n + 1, h => by rw [cnt, cnt, cnt_congr (fun k hk => h k (by omega)), h n (by omega)]
/-- a THING of a row of numbers is there -/
def sTh (σ : Nat → Int32) (t : Nat) : Bool := decide (σ (55 + 7 * t) = 1)
section REF3
variable {d : Nat} {I : Nat → Nat → Int32} {x y : Option Nat}
theorem r_howMany_loop {T : Nat} (hT : T ≤ 10) (h8 : I 114 8 = nI T) : ∀ k t, t + k = T → aGo (aCall aMt (d + 2)) none cd_130 0 4 [some (.ref 113), some (.int (nI (cnt (sTh (I 114)) t))), some (.int (nI t))] [] (HH I x y) = some (some (.int (nI (cnt (sTh (I 114)) T))), HH I x y) := by
  intro k
  induction k with
  | zero =>
    intro t ht
    obtain rfl : t = T := by omega
    rw [s_130_4]
    simp [s_130, aILoad, aRLoad, aLLoad, aIStore, aRStore, aPush, aBin, aBinL, aShL, aUn, aIf, aIc, aGet, aPut, aIald, aBald, aAald, aIast, aBast, aAast, aAlen, aCopy, aCallV, aCallC, aCallI, aRet, aCat, aMax, aMin, aDiv, aRem, aI2l, aL2i, aNul, aSwS, aSw, aInc, aDup, aDup2, aPop1, aIret, aAret, aVret, aLen, aFk, aFT, Value.category, m_sh, m_p, h8]
  | succ k ih =>
    intro t ht
    rw [s_130_4]
    have h1 : ¬ nI T ≤ nI t := nI_ge (by omega) (by omega)
    have h2 := ih (t + 1) (by omega)
    rw [cnt] at h2
    by_cases hc : I 114 (55 + 7 * t) = 1
    · simp [s_130, aILoad, aRLoad, aLLoad, aIStore, aRStore, aPush, aBin, aBinL, aShL, aUn, aIf, aIc, aGet, aPut, aIald, aBald, aAald, aIast, aBast, aAast, aAlen, aCopy, aCallV, aCallC, aCallI, aRet, aCat, aMax, aMin, aDiv, aRem, aI2l, aL2i, aNul, aSwS, aSw, aInc, aDup, aDup2, aPop1, aIret, aAret, aVret, aLen, aFk, aFT, Value.category, m_sh, m_p, h8, h1, r_isThere (show t < 10 by omega), hc, nI_1]
      simpa [sTh, hc] using h2
    · simp [s_130, aILoad, aRLoad, aLLoad, aIStore, aRStore, aPush, aBin, aBinL, aShL, aUn, aIf, aIc, aGet, aPut, aIald, aBald, aAald, aIast, aBast, aAast, aAlen, aCopy, aCallV, aCallC, aCallI, aRet, aCat, aMax, aMin, aDiv, aRem, aI2l, aL2i, aNul, aSwS, aSw, aInc, aDup, aDup2, aPop1, aIret, aAret, aVret, aLen, aFk, aFT, Value.category, m_sh, m_p, h8, h1, r_isThere (show t < 10 by omega), hc, nI_1]
      simpa [sTh, hc] using h2
theorem r_howMany {T : Nat} (hT : T ≤ 10) (h8 : I 114 8 = nI T) : aCall aMt (d + 3) 130 [.ref 113] (HH I x y) = some (some (.int (nI (cnt (sTh (I 114)) T))), HH I x y) := by
  rw [e_130]
  have h := r_howMany_loop (d := d) (x := x) (y := y) hT h8 T 0 (by omega)
  simp [s_130, aILoad, aRLoad, aLLoad, aIStore, aRStore, aPush, aBin, aBinL, aShL, aUn, aIf, aIc, aGet, aPut, aIald, aBald, aAald, aIast, aBast, aAast, aAlen, aCopy, aCallV, aCallC, aCallI, aRet, aCat, aMax, aMin, aDiv, aRem, aI2l, aL2i, aNul, aSwS, aSw, aInc, aDup, aDup2, aPop1, aIret, aAret, aVret, aLen, aFk, aFT, Value.category]
  simpa [cnt, nI_lit0] using h
def sHis (σ : Nat → Int32) (p t : Nat) : Bool := sTh σ t && decide (σ (50 + 7 * t) = nI p)
theorem r_his_loop {T p : Nat} (hT : T ≤ 10) (hp : p < 8) (h8 : I 114 8 = nI T) : ∀ k t, t + k = T → aGo (aCall aMt (d + 2)) none cd_165 0 4 [some (.ref 113), some (.int (nI p)), some (.int (nI (cnt (sHis (I 114) p) t))), some (.int (nI t))] [] (HH I x y) = some (some (.int (nI (cnt (sHis (I 114) p) T))), HH I x y) := by
  intro k
  induction k with
  | zero =>
    intro t ht
    obtain rfl : t = T := by omega
    rw [s_165_4]
    simp [s_165, aILoad, aRLoad, aLLoad, aIStore, aRStore, aPush, aBin, aBinL, aShL, aUn, aIf, aIc, aGet, aPut, aIald, aBald, aAald, aIast, aBast, aAast, aAlen, aCopy, aCallV, aCallC, aCallI, aRet, aCat, aMax, aMin, aDiv, aRem, aI2l, aL2i, aNul, aSwS, aSw, aInc, aDup, aDup2, aPop1, aIret, aAret, aVret, aLen, aFk, aFT, Value.category, m_sh, m_p, h8]
  | succ k ih =>
    intro t ht
    rw [s_165_4]
    have h1 : ¬ nI T ≤ nI t := nI_ge (by omega) (by omega)
    have h2 := ih (t + 1) (by omega)
    rw [cnt] at h2
    by_cases hc : I 114 (55 + 7 * t) = 1
    · by_cases hd : I 114 (50 + 7 * t) = nI p
      · simp [s_165, aILoad, aRLoad, aLLoad, aIStore, aRStore, aPush, aBin, aBinL, aShL, aUn, aIf, aIc, aGet, aPut, aIald, aBald, aAald, aIast, aBast, aAast, aAlen, aCopy, aCallV, aCallC, aCallI, aRet, aCat, aMax, aMin, aDiv, aRem, aI2l, aL2i, aNul, aSwS, aSw, aInc, aDup, aDup2, aPop1, aIret, aAret, aVret, aLen, aFk, aFT, Value.category, m_sh, m_p, h8, h1, r_isThere (show t < 10 by omega), r_of (show t < 10 by omega), hc, hd, nI_1]
        simpa [sHis, sTh, hc, hd] using h2
      · simp [s_165, aILoad, aRLoad, aLLoad, aIStore, aRStore, aPush, aBin, aBinL, aShL, aUn, aIf, aIc, aGet, aPut, aIald, aBald, aAald, aIast, aBast, aAast, aAlen, aCopy, aCallV, aCallC, aCallI, aRet, aCat, aMax, aMin, aDiv, aRem, aI2l, aL2i, aNul, aSwS, aSw, aInc, aDup, aDup2, aPop1, aIret, aAret, aVret, aLen, aFk, aFT, Value.category, m_sh, m_p, h8, h1, r_isThere (show t < 10 by omega), r_of (show t < 10 by omega), hc, hd, nI_1]
        simpa [sHis, sTh, hc, hd] using h2
    · simp [s_165, aILoad, aRLoad, aLLoad, aIStore, aRStore, aPush, aBin, aBinL, aShL, aUn, aIf, aIc, aGet, aPut, aIald, aBald, aAald, aIast, aBast, aAast, aAlen, aCopy, aCallV, aCallC, aCallI, aRet, aCat, aMax, aMin, aDiv, aRem, aI2l, aL2i, aNul, aSwS, aSw, aInc, aDup, aDup2, aPop1, aIret, aAret, aVret, aLen, aFk, aFT, Value.category, m_sh, m_p, h8, h1, r_isThere (show t < 10 by omega), hc, nI_1]
      simpa [sHis, sTh, hc] using h2
theorem r_his {T p : Nat} (hT : T ≤ 10) (hp : p < 8) (h8 : I 114 8 = nI T) : aCall aMt (d + 3) 165 [.ref 113, .int (nI p)] (HH I x y) = some (some (.int (nI (cnt (sHis (I 114) p) T))), HH I x y) := by
  rw [e_165]
  have h := r_his_loop (d := d) (x := x) (y := y) hT hp h8 T 0 (by omega)
  simp [s_165, aILoad, aRLoad, aLLoad, aIStore, aRStore, aPush, aBin, aBinL, aShL, aUn, aIf, aIc, aGet, aPut, aIald, aBald, aAald, aIast, aBast, aAast, aAlen, aCopy, aCallV, aCallC, aCallI, aRet, aCat, aMax, aMin, aDiv, aRem, aI2l, aL2i, aNul, aSwS, aSw, aInc, aDup, aDup2, aPop1, aIret, aAret, aVret, aLen, aFk, aFT, Value.category]
  simpa [cnt, nI_lit0] using h
theorem r_isKind {v : Int32} {H : aH} : aCall aMt (d + 2) 163 [.int v] H = some (some (.int (if 0 ≤ v ∧ v ≤ 69 then 1 else 0)), H) := by
  rw [e_163]
  by_cases h : 0 ≤ v ∧ v ≤ 69 <;> simp [s_163, aILoad, aRLoad, aLLoad, aIStore, aRStore, aPush, aBin, aBinL, aShL, aUn, aIf, aIc, aGet, aPut, aIald, aBald, aAald, aIast, aBast, aAast, aAlen, aCopy, aCallV, aCallC, aCallI, aRet, aCat, aMax, aMin, aDiv, aRem, aI2l, aL2i, aNul, aSwS, aSw, aInc, aDup, aDup2, aPop1, aIret, aAret, aVret, aLen, aFk, aFT, Value.category, r_in, h]
theorem r_above {v : Int32} {H : aH} : aCall aMt (d + 1) 197 [.int v] H = some (some (.int (if v = 4 then 1 else if v = 5 then 2 else 0)), H) := by
  rw [e_197]
  by_cases h : v = 4
  · simp [s_197, aILoad, aRLoad, aLLoad, aIStore, aRStore, aPush, aBin, aBinL, aShL, aUn, aIf, aIc, aGet, aPut, aIald, aBald, aAald, aIast, aBast, aAast, aAlen, aCopy, aCallV, aCallC, aCallI, aRet, aCat, aMax, aMin, aDiv, aRem, aI2l, aL2i, aNul, aSwS, aSw, aInc, aDup, aDup2, aPop1, aIret, aAret, aVret, aLen, aFk, aFT, Value.category, h]
  · by_cases h1 : v = 5 <;> simp [s_197, aILoad, aRLoad, aLLoad, aIStore, aRStore, aPush, aBin, aBinL, aShL, aUn, aIf, aIc, aGet, aPut, aIald, aBald, aAald, aIast, aBast, aAast, aAlen, aCopy, aCallV, aCallC, aCallI, aRet, aCat, aMax, aMin, aDiv, aRem, aI2l, aL2i, aNul, aSwS, aSw, aInc, aDup, aDup2, aPop1, aIret, aAret, aVret, aLen, aFk, aFT, Value.category, h, h1]
theorem r_greatest {v : Int32} {H : aH} : aCall aMt (d + 1) 170 [.int v] H = some (some (.int (if v = 1 then 2 else if v = 2 then 3 else if v = 3 then 9 else 1)), H) := by
  rw [e_170]
  by_cases h : v = 1
  · simp [s_170, aILoad, aRLoad, aLLoad, aIStore, aRStore, aPush, aBin, aBinL, aShL, aUn, aIf, aIc, aGet, aPut, aIald, aBald, aAald, aIast, aBast, aAast, aAlen, aCopy, aCallV, aCallC, aCallI, aRet, aCat, aMax, aMin, aDiv, aRem, aI2l, aL2i, aNul, aSwS, aSw, aInc, aDup, aDup2, aPop1, aIret, aAret, aVret, aLen, aFk, aFT, Value.category, h]
  · by_cases h1 : v = 2
    · simp [s_170, aILoad, aRLoad, aLLoad, aIStore, aRStore, aPush, aBin, aBinL, aShL, aUn, aIf, aIc, aGet, aPut, aIald, aBald, aAald, aIast, aBast, aAast, aAlen, aCopy, aCallV, aCallC, aCallI, aRet, aCat, aMax, aMin, aDiv, aRem, aI2l, aL2i, aNul, aSwS, aSw, aInc, aDup, aDup2, aPop1, aIret, aAret, aVret, aLen, aFk, aFT, Value.category, h, h1]
    · by_cases h2 : v = 3 <;> simp [s_170, aILoad, aRLoad, aLLoad, aIStore, aRStore, aPush, aBin, aBinL, aShL, aUn, aIf, aIc, aGet, aPut, aIald, aBald, aAald, aIast, aBast, aAast, aAlen, aCopy, aCallV, aCallC, aCallI, aRet, aCat, aMax, aMin, aDiv, aRem, aI2l, aL2i, aNul, aSwS, aSw, aInc, aDup, aDup2, aPop1, aIret, aAret, aVret, aLen, aFk, aFT, Value.category, h, h1, h2]
end REF3
