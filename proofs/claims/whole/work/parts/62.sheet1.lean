/-! sheets: the class's and the reference's; rows filled -/
/-- a row's places from lo to hi hold v -/
def aFil (I : Nat → Nat → Int32) (a lo hi : Nat) (v : Int32) : Nat → Nat → Int32 := fun r j => if r = a ∧ lo ≤ j ∧ j < hi then v else I r j
theorem aFil_ne {I : Nat → Nat → Int32} {a lo hi r : Nat} {v : Int32} (h : r ≠ a) : aFil I a lo hi v r = I r := by funext j; unfold aFil; rw [if_neg (fun z => h z.1)]
theorem aFil_in {I : Nat → Nat → Int32} {a lo hi j : Nat} {v : Int32} (h1 : lo ≤ j) (h2 : j < hi) : aFil I a lo hi v a j = v := if_pos ⟨rfl, h1, h2⟩
theorem aFil_out {I : Nat → Nat → Int32} {a lo hi j : Nat} {v : Int32} (h : j < lo ∨ hi ≤ j) : aFil I a lo hi v a j = I a j := if_neg (fun z => by omega)
theorem aFil_0 {I : Nat → Nat → Int32} {a lo : Nat} {v : Int32} : aFil I a lo lo v = I := by funext r j; unfold aFil; rw [if_neg (fun z => by omega)]
theorem aFil_s {I : Nat → Nat → Int32} {a lo hi : Nat} {v : Int32} (h : lo ≤ hi) : aUpd (aFil I a lo hi v) a hi v = aFil I a lo (hi + 1) v := by
  funext r j
  by_cases e : r = a
  · subst e
    rw [aUpd_row]
    by_cases e2 : j = hi
    · subst e2; rw [upd_eq, aFil_in h (by omega)]
    · rw [upd_ne e2]
      by_cases e3 : lo ≤ j ∧ j < hi
      · rw [aFil_in e3.1 e3.2, aFil_in e3.1 (by omega)]
      · rw [aFil_out (by omega), aFil_out (by omega)]
  · rw [aUpd_ne e, aFil_ne e, aFil_ne e]
theorem sh_sh {i : Nat} (h : i < 4) : SH[105 + 2 * i]? = some (4, 3) ∧ SH[106 + 2 * i]? = some (20, 24) := by
  have : i = 0 ∨ i = 1 ∨ i = 2 ∨ i = 3 := by omega
  rcases this with rfl | rfl | rfl | rfl <;> exact ⟨rfl, rfl⟩
theorem sh_p {i : Nat} {x y : Option Nat} (h : i < 4) : aP (PP x y) 102 i = some (105 + 2 * i) ∧ aP (PP x y) (105 + 2 * i) 0 = some (106 + 2 * i) := by
  have : i = 0 ∨ i = 1 ∨ i = 2 ∨ i = 3 := by omega
  rcases this with rfl | rfl | rfl | rfl <;> exact ⟨rfl, rfl⟩
section SHEET1
variable {d : Nat} {I : Nat → Nat → Int32} {x y : Option Nat}
theorem k_fill_loop {a N : Nat} {v : Int32} (ha : SH[a]? = some (20, N)) (hN : N < 2 ^ 30) : ∀ k i, i + k = N →
    aGo (aCall aMt d) none cd_220 3 5 [some (.ref a), some (.int v), some (.int (nI i)), some (.int (nI N))] [] (HH (aFil I a 0 i v) x y) = some (none, HH (aFil I a 0 N v) x y) := by
  intro k
  induction k with
  | zero =>
    intro i hi
    obtain rfl : i = N := by omega
    rw [s_220_5]
    simp [s_220, aILoad, aRLoad, aLLoad, aIStore, aRStore, aPush, aBin, aBinL, aShL, aUn, aIf, aIc, aGet, aPut, aIald, aBald, aAald, aIast, aBast, aAast, aAlen, aCopy, aCallV, aCallC, aCallI, aRet, aCat, aMax, aMin, aDiv, aRem, aI2l, aL2i, aNul, aSwS, aSw, aInc, aDup, aDup2, aPop1, aIret, aAret, aVret, aLen, aFk, aFT, Value.category]
  | succ k ih =>
    intro i hi
    have g1 : ¬ nI N ≤ nI i := nI_ge (by omega) (by omega)
    have g := ih (i + 1) (by omega)
    rw [← aFil_s (Nat.zero_le i)] at g
    rw [s_220_5, ← g]
    simp [s_220, aILoad, aRLoad, aLLoad, aIStore, aRStore, aPush, aBin, aBinL, aShL, aUn, aIf, aIc, aGet, aPut, aIald, aBald, aAald, aIast, aBast, aAast, aAlen, aCopy, aCallV, aCallC, aCallI, aRet, aCat, aMax, aMin, aDiv, aRem, aI2l, aL2i, aNul, aSwS, aSw, aInc, aDup, aDup2, aPop1, aIret, aAret, aVret, aLen, aFk, aFT, Value.category, g1, ha, toNat_nI (show i < 2 ^ 31 by omega), nI_lt0 (show i < 2 ^ 31 by omega), show ¬ N ≤ i by omega, nI_1]
theorem k_fill {a N : Nat} {v : Int32} (ha : SH[a]? = some (20, N)) (hN : N < 2 ^ 30) : aCall aMt (d + 1) 220 [.ref a, .int v] (HH I x y) = some (none, HH (aFil I a 0 N v) x y) := by
  have g := k_fill_loop (d := d) (I := I) (x := x) (y := y) (v := v) ha hN N 0 (by omega)
  rw [aFil_0, nI_lit0] at g
  rw [e_220, ← g]
  simp [s_220, aILoad, aRLoad, aLLoad, aIStore, aRStore, aPush, aBin, aBinL, aShL, aUn, aIf, aIc, aGet, aPut, aIald, aBald, aAald, aIast, aBast, aAast, aAlen, aCopy, aCallV, aCallC, aCallI, aRet, aCat, aMax, aMin, aDiv, aRem, aI2l, aL2i, aNul, aSwS, aSw, aInc, aDup, aDup2, aPop1, aIret, aAret, aVret, aLen, aFk, aFT, Value.category, ha, nI]
theorem k_sheetAt {i : Nat} (hi : i < 4) : aCall aMt (d + 2) 110 [.ref 0, .int (nI i)] (HH I x y) = some (some (.ref (105 + 2 * i)), HH I x y) := by
  have hb : 0 ≤ nI i ∧ nI i ≤ 3 := ⟨nI_pos' (by omega), nI_le (b := 3) (by omega) (by omega)⟩
  rw [e_110]
  simp [s_110, aILoad, aRLoad, aLLoad, aIStore, aRStore, aPush, aBin, aBinL, aShL, aUn, aIf, aIc, aGet, aPut, aIald, aBald, aAald, aIast, aBast, aAast, aAlen, aCopy, aCallV, aCallC, aCallI, aRet, aCat, aMax, aMin, aDiv, aRem, aI2l, aL2i, aNul, aSwS, aSw, aInc, aDup, aDup2, aPop1, aIret, aAret, aVret, aLen, aFk, aFT, Value.category, c_sh, c_q, k_isIn, hb, sh_p hi, toNat_nI (show i < 2 ^ 31 by omega), show i < 4 by omega]
theorem k_sheetNo {v : Int32} (h : ¬ (0 ≤ v ∧ v ≤ 3)) : aCall aMt (d + 2) 110 [.ref 0, .int v] (HH I x y) = some (some .null, HH I x y) := by
  rw [e_110]
  simp [s_110, aILoad, aRLoad, aLLoad, aIStore, aRStore, aPush, aBin, aBinL, aShL, aUn, aIf, aIc, aGet, aPut, aIald, aBald, aAald, aIast, aBast, aAast, aAlen, aCopy, aCallV, aCallC, aCallI, aRet, aCat, aMax, aMin, aDiv, aRem, aI2l, aL2i, aNul, aSwS, aSw, aInc, aDup, aDup2, aPop1, aIret, aAret, aVret, aLen, aFk, aFT, Value.category, k_isIn, h]
theorem k_missing {i : Nat} (hi : i < 4) : aCall aMt (d + 1) 46 [.ref (105 + 2 * i)] (HH I x y) = some (some (.int (if I (105 + 2 * i) 1 = 0 then 1 else 0)), HH I x y) := by
  rw [e_46]
  by_cases h : I (105 + 2 * i) 1 = 0 <;> simp [s_46, aILoad, aRLoad, aLLoad, aIStore, aRStore, aPush, aBin, aBinL, aShL, aUn, aIf, aIc, aGet, aPut, aIald, aBald, aAald, aIast, aBast, aAast, aAlen, aCopy, aCallV, aCallC, aCallI, aRet, aCat, aMax, aMin, aDiv, aRem, aI2l, aL2i, aNul, aSwS, aSw, aInc, aDup, aDup2, aPop1, aIret, aAret, aVret, aLen, aFk, aFT, Value.category, sh_sh hi, h]
theorem k_lay {i : Nat} {b n : Int32} (hi : i < 4) : aCall aMt (d + 2) 47 [.ref (105 + 2 * i), .int b, .int n] (HH I x y) = some (none, HH (aFil (aUpd (aUpd I (105 + 2 * i) 1 b) (105 + 2 * i) 2 n) (106 + 2 * i) 0 24 0) x y) := by
  have hf := k_fill (d := d) (I := aUpd (aUpd I (105 + 2 * i) 1 b) (105 + 2 * i) 2 n) (x := x) (y := y) (a := 106 + 2 * i) (N := 24) (v := 0) (sh_sh hi).2 (by omega)
  rw [e_47]
  simp [s_47, aILoad, aRLoad, aLLoad, aIStore, aRStore, aPush, aBin, aBinL, aShL, aUn, aIf, aIc, aGet, aPut, aIald, aBald, aAald, aIast, aBast, aAast, aAlen, aCopy, aCallV, aCallC, aCallI, aRet, aCat, aMax, aMin, aDiv, aRem, aI2l, aL2i, aNul, aSwS, aSw, aInc, aDup, aDup2, aPop1, aIret, aAret, aVret, aLen, aFk, aFT, Value.category, sh_sh hi, sh_p hi, hf]
theorem k_holds {i : Nat} {a n : Int32} (hi : i < 4) : aCall aMt (d + 2) 48 [.ref (105 + 2 * i), .int a, .int n] (HH I x y) = some (some (.int (if (0 ≤ n ∧ n ≤ I (105 + 2 * i) 2) ∧ 0 ≤ a ∧ a ≤ I (105 + 2 * i) 2 - n then 1 else 0)), HH I x y) := by
  rw [e_48]
  by_cases h0 : n < 0
  · have h0' : ¬ 0 ≤ n := Int32.not_le.mpr h0
    simp [s_48, aILoad, aRLoad, aLLoad, aIStore, aRStore, aPush, aBin, aBinL, aShL, aUn, aIf, aIc, aGet, aPut, aIald, aBald, aAald, aIast, aBast, aAast, aAlen, aCopy, aCallV, aCallC, aCallI, aRet, aCat, aMax, aMin, aDiv, aRem, aI2l, aL2i, aNul, aSwS, aSw, aInc, aDup, aDup2, aPop1, aIret, aAret, aVret, aLen, aFk, aFT, Value.category, sh_sh hi, h0, h0']
  · have h0' : 0 ≤ n := Int32.not_lt.mp h0
    by_cases h1 : n ≤ I (105 + 2 * i) 2
    · have h1' : ¬ I (105 + 2 * i) 2 < n := Int32.not_lt.mpr h1
      by_cases h2 : 0 ≤ a ∧ a ≤ I (105 + 2 * i) 2 - n
      · simp [s_48, aILoad, aRLoad, aLLoad, aIStore, aRStore, aPush, aBin, aBinL, aShL, aUn, aIf, aIc, aGet, aPut, aIald, aBald, aAald, aIast, aBast, aAast, aAlen, aCopy, aCallV, aCallC, aCallI, aRet, aCat, aMax, aMin, aDiv, aRem, aI2l, aL2i, aNul, aSwS, aSw, aInc, aDup, aDup2, aPop1, aIret, aAret, aVret, aLen, aFk, aFT, Value.category, sh_sh hi, h0, h0', h1, h1', k_isIn, h2]
      · simp [s_48, aILoad, aRLoad, aLLoad, aIStore, aRStore, aPush, aBin, aBinL, aShL, aUn, aIf, aIc, aGet, aPut, aIald, aBald, aAald, aIast, aBast, aAast, aAlen, aCopy, aCallV, aCallC, aCallI, aRet, aCat, aMax, aMin, aDiv, aRem, aI2l, aL2i, aNul, aSwS, aSw, aInc, aDup, aDup2, aPop1, aIret, aAret, aVret, aLen, aFk, aFT, Value.category, sh_sh hi, h0, h0', h1, h1', k_isIn, h2]
    · have h1' : I (105 + 2 * i) 2 < n := Int32.not_le.mp h1
      simp [s_48, aILoad, aRLoad, aLLoad, aIStore, aRStore, aPush, aBin, aBinL, aShL, aUn, aIf, aIc, aGet, aPut, aIald, aBald, aAald, aIast, aBast, aAast, aAlen, aCopy, aCallV, aCallC, aCallI, aRet, aCat, aMax, aMin, aDiv, aRem, aI2l, aL2i, aNul, aSwS, aSw, aInc, aDup, aDup2, aPop1, aIret, aAret, aVret, aLen, aFk, aFT, Value.category, sh_sh hi, h0, h0', h1, h1']
theorem r_isSheet {v : Int32} {H : aH} : aCall aMt (d + 2) 206 [.int v] H = some (some (.int (if 0 ≤ v ∧ v ≤ 3 then 1 else 0)), H) := by
  rw [e_206]
  simp [s_206, aILoad, aRLoad, aLLoad, aIStore, aRStore, aPush, aBin, aBinL, aShL, aUn, aIf, aIc, aGet, aPut, aIald, aBald, aAald, aIast, aBast, aAast, aAlen, aCopy, aCallV, aCallC, aCallI, aRet, aCat, aMax, aMin, aDiv, aRem, aI2l, aL2i, aNul, aSwS, aSw, aInc, aDup, aDup2, aPop1, aIret, aAret, aVret, aLen, aFk, aFT, Value.category, r_in]
/-- both change sheets alone -/
theorem Pair.sh {cm rm : Nat} {args : List Value} {v : Int32} {I1 I2 : Nat → Nat → Int32} (h : Rel I) (hc : aCall aMt (d + 20) cm (.ref 0 :: args) (HH I x y) = some (some (.int v), HH I1 x y))
    (hr : aCall aMt (d + 20) rm (.ref 113 :: args) (HH I1 x y) = some (some (.int v), HH I2 x y)) (hI : ∀ r, r < 105 → I2 r = I r) (hJ : ∀ r, 113 ≤ r → r ≠ 124 → r ≠ 125 → r ≠ 126 → r ≠ 127 → I2 r = I r) (hS : relS I2 I2) :
    ∃ v I1 x1 y1 I2, aCall aMt (d + 20) cm (.ref 0 :: args) (HH I x y) = some (some (.int v), HH I1 x1 y1) ∧ aCall aMt (d + 20) rm (.ref 113 :: args) (HH I1 x1 y1) = some (some (.int v), HH I2 x1 y1) ∧ Rel I2 := by
  obtain ⟨⟨P, T, hA⟩, ⟨k1, k2, k3⟩, hF, hE, _, hV⟩ := h
  have j : ∀ r, 113 ≤ r → r < 124 → I2 r = I r := fun r a b => hJ r a (by omega) (by omega) (by omega) (by omega)
  refine ⟨_, _, x, y, _, hc, hr, ⟨P, T, ?_⟩, ⟨?_, ?_, k3.rows fun r a b => hI r (by omega)⟩, hF.rows fun r a b => hI r (by omega), fun k a b => ?_, hS, ?_⟩
  · rw [j 114 (by omega) (by omega)]; exact hA.rows fun r a b => hI r (by omega)
  · rw [hI 0 (by omega), j 113 (by omega) (by omega)]; exact k1
  · rw [hI 0 (by omega), j 115 (by omega) (by omega)]
    exact k2.imp (fun z => z) fun ⟨P, T, q⟩ => ⟨P, T, q.rows fun r a b => hI r (by omega)⟩
  · rw [hI 103 (by omega), j 117 (by omega) (by omega)]; exact hE k a b
  · obtain ⟨n, a, b, c, e⟩ := hV
    exact ⟨n, a, by rw [hI 100 (by omega)]; exact b, by rw [j 113 (by omega) (by omega)]; exact c, fun i hi => by rw [hI 101 (by omega), j 123 (by omega) (by omega)]; exact e i hi⟩
theorem in_0n {w : Int32} {n : Nat} {N : Int32} (hN : N = nI n) (hn : n < 2 ^ 30) (h : 0 ≤ w ∧ w ≤ N) : ∃ p, p ≤ n ∧ w = nI p := by
  subst hN
  obtain ⟨p, _, a, b⟩ := (isIn' (v := w) (a := 0) (b := n) (by omega) (by omega)).mp h
  exact ⟨p, a, b⟩
theorem r_zero_loop {s : Nat} {b n : Int32} (hs : s < 4) : ∀ k j, j + k = 24 →
    aGo (aCall aMt d) none cd_207 0 90 [some (.ref 113), some (.int (nI s)), some (.int b), some (.int n), some (.int (nI j))] [] (HH (aFil I 126 (24 * s) (24 * s + j) 0) x y) = some (some (.int 1), HH (aFil I 126 (24 * s) (24 * s + 24) 0) x y) := by
  intro k
  induction k with
  | zero =>
    intro j hj
    obtain rfl : j = 24 := by omega
    rw [s_207_90]
    simp [s_207, aILoad, aRLoad, aLLoad, aIStore, aRStore, aPush, aBin, aBinL, aShL, aUn, aIf, aIc, aGet, aPut, aIald, aBald, aAald, aIast, aBast, aAast, aAlen, aCopy, aCallV, aCallC, aCallI, aRet, aCat, aMax, aMin, aDiv, aRem, aI2l, aL2i, aNul, aSwS, aSw, aInc, aDup, aDup2, aPop1, aIret, aAret, aVret, aLen, aFk, aFT, Value.category, show ¬ nI 24 < 24 by decide, show (24 : Int32) ≤ nI 24 by decide]
  | succ k ih =>
    intro j hj
    have g1 : ¬ (24 : Int32) ≤ nI j := nI_ge (b := 24) (by omega) (by omega)
    have g := ih (j + 1) (by omega)
    rw [show 24 * s + (j + 1) = 24 * s + j + 1 by omega, ← aFil_s (by omega)] at g
    have ix : (24 : Int32) * nI s + nI j = nI (24 * s + j) := by rw [show (24 : Int32) = nI 24 from rfl, pk_mul, nI_add]
    rw [s_207_90, ← g]
    simp [s_207, aILoad, aRLoad, aLLoad, aIStore, aRStore, aPush, aBin, aBinL, aShL, aUn, aIf, aIc, aGet, aPut, aIald, aBald, aAald, aIast, aBast, aAast, aAlen, aCopy, aCallV, aCallC, aCallI, aRet, aCat, aMax, aMin, aDiv, aRem, aI2l, aL2i, aNul, aSwS, aSw, aInc, aDup, aDup2, aPop1, aIret, aAret, aVret, aLen, aFk, aFT, Value.category, m_sh, m_p, g1, ix, toNat_nI (show 24 * s + j < 2 ^ 31 by omega), nI_lt0 (show 24 * s + j < 2 ^ 31 by omega), nI_pos' (n := 24 * s + j) (by omega), show 24 * s + j < 96 by omega, show ¬ 96 ≤ 24 * s + j by omega, nI_1]
end SHEET1
