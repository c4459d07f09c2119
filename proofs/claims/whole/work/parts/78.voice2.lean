/-! VOICES: parts; the reference's -/
theorem aUpd_self {I : Nat → Nat → Int32} {a k : Nat} {v : Int32} (h : I a k = v) : aUpd I a k v = I := by
  funext r j
  by_cases e : r = a
  · subst e; rw [aUpd_row, upd_self h]
  · rw [aUpd_ne e]
theorem lSw_le (K q : Nat) : (lSw K q).length ≤ 8 := by have := lMk_le K K; unfold lSw; split <;> simp <;> omega
/-- the reference's speaker -/
def vR (I : Nat → Nat → Int32) (n p N : Nat) (m : Int32) : Prop := I 113 14 = nI n ∧ I 113 16 = nI p ∧ I 113 17 = 0 ∧ I 114 (10 + 5 * p) = nI N ∧ I 114 (11 + 5 * p) = m
theorem vR.ta {I : Nat → Nat → Int32} {n p N : Nat} {m b : Int32} (h : vR I n p N m) : vR (tA 123 113 14 I n b) (n + 1) p N m :=
  ⟨tA_len, by rw [tA_fld (by decide) (by decide)]; exact h.2.1, by rw [tA_fld (by decide) (by decide)]; exact h.2.2.1, by rw [tA_row (by decide) (by decide)]; exact h.2.2.2.1, by rw [tA_row (by decide) (by decide)]; exact h.2.2.2.2⟩
theorem vR.ts {p N : Nat} {m : Int32} : ∀ {l : List Int32} {I : Nat → Nat → Int32} {n : Nat}, vR I n p N m → vR (tS 123 113 14 I n l) (n + l.length) p N m
  | [], _, _, h => h
  | b :: l, I, n, h => by
    have := (h.ta (b := b)).ts (l := l)
    rw [tS, List.length_cons, show n + (l.length + 1) = n + 1 + l.length by omega]; exact this
section VOICE2
variable {d : Nat} {I : Nat → Nat → Int32} {x y : Option Nat}
theorem k_partedIn {a p : Int32} : aCall aMt (d + 1) 62 [.ref 100, .int a, .int p] (HH I x y) = if p = 0 then some (some (.int 0), HH (aUpd I 100 3 1) x y) else some (some (.int (a / p)), HH I x y) := by
  rw [e_62]
  by_cases h : p = 0
  · simp [s_62, aILoad, aRLoad, aLLoad, aIStore, aRStore, aPush, aBin, aBinL, aShL, aUn, aIf, aIc, aGet, aPut, aIald, aBald, aAald, aIast, aBast, aAast, aAlen, aCopy, aCallV, aCallC, aCallI, aRet, aCat, aMax, aMin, aDiv, aRem, aI2l, aL2i, aNul, aSwS, aSw, aInc, aDup, aDup2, aPop1, aIret, aAret, aVret, aLen, aFk, aFT, Value.category, c_sh, h]
  · simp [s_62, aILoad, aRLoad, aLLoad, aIStore, aRStore, aPush, aBin, aBinL, aShL, aUn, aIf, aIc, aGet, aPut, aIald, aBald, aAald, aIast, aBast, aAast, aAlen, aCopy, aCallV, aCallC, aCallI, aRet, aCat, aMax, aMin, aDiv, aRem, aI2l, aL2i, aNul, aSwS, aSw, aInc, aDup, aDup2, aPop1, aIret, aAret, aVret, aLen, aFk, aFT, Value.category, c_sh, h]
theorem k_pt0 {n e q : Nat} {k m K a : Int32} (hq : q = 0 ∨ q = 2 ∨ q = 3 ∨ q = 5 ∨ q = 6) (h : vC I n k m K) (hn : n ≤ 20) (he : e ≤ 10) : aCall aMt (d + 3) 59 [.ref 100, .int 3, .int (nI q), .int a, .int (nI e)] (HH I x y) = if m - k = 0 then some (some (.int 0), HH (aUpd (tA 101 100 1 I n 13) 100 3 1) x y) else some (some (.int (a / (m - k))), HH (tA 101 100 1 I n 13) x y) := by
  have g20 : ¬ (20 : Int32) ≤ nI e := nI_ge (b := 20) (by omega) (by omega)
  have h2 := h.ta (b := 13)
  rw [e_59]
  by_cases hz : m - k = 0 <;>
  rcases hq with rfl | rfl | rfl | rfl | rfl <;>
    simp [s_59, aILoad, aRLoad, aLLoad, aIStore, aRStore, aPush, aBin, aBinL, aShL, aUn, aIf, aIc, aGet, aPut, aIald, aBald, aAald, aIast, aBast, aAast, aAlen, aCopy, aCallV, aCallC, aCallI, aRet, aCat, aMax, aMin, aDiv, aRem, aI2l, aL2i, aNul, aSwS, aSw, aInc, aDup, aDup2, aPop1, aIret, aAret, aVret, aLen, aFk, aFT, Value.category, c_sh, c_q, k_brs (H := HH I x y) st_sh.1 st_sh.2.2, h.1, h.2.1, h.2.2.1, h.2.2.2.1, h.2.2.2.2, st_sh, aSt, aBO, aKA, g20, k_begin h.1 (show n < 30 by omega), h2.2.1, h2.2.2.1, h2.2.2.2.1, h2.2.2.2.2, k_partedIn, hz, nI_lit0, nI_lit1, show nI 2 = (2 : Int32) from rfl, show nI 3 = (3 : Int32) from rfl, show nI 4 = (4 : Int32) from rfl, show nI 5 = (5 : Int32) from rfl, show nI 6 = (6 : Int32) from rfl, nI_1]
theorem k_quiet {e N : Nat} {a : Int32} (hN : N ≤ 6) (h : I 100 3 = 1) : aCall aMt (d + 3) 59 [.ref 100, .int 1, .int (nI N), .int a, .int (nI e)] (HH I x y) = some (some (.int 0), HH I x y) := by
  have hN' : N = 0 ∨ N = 1 ∨ N = 2 ∨ N = 3 ∨ N = 4 ∨ N = 5 ∨ N = 6 := by omega
  rw [e_59]
  rcases hN' with rfl | rfl | rfl | rfl | rfl | rfl | rfl <;>
    simp [s_59, aILoad, aRLoad, aLLoad, aIStore, aRStore, aPush, aBin, aBinL, aShL, aUn, aIf, aIc, aGet, aPut, aIald, aBald, aAald, aIast, aBast, aAast, aAlen, aCopy, aCallV, aCallC, aCallI, aRet, aCat, aMax, aMin, aDiv, aRem, aI2l, aL2i, aNul, aSwS, aSw, aInc, aDup, aDup2, aPop1, aIret, aAret, aVret, aLen, aFk, aFT, Value.category, c_sh, c_q, k_brs (H := HH I x y) st_sh.1 st_sh.2.2, h, nI_lit0, nI_lit1, show nI 2 = (2 : Int32) from rfl, show nI 3 = (3 : Int32) from rfl, show nI 4 = (4 : Int32) from rfl, show nI 5 = (5 : Int32) from rfl, show nI 6 = (6 : Int32) from rfl, nI_1]
theorem k_pt1 {n e q N : Nat} {k m a : Int32} (hq : q = 1 ∨ q = 4) (hN : N ≤ 6) (h : vC I n k m (nI N)) (hn : n ≤ 14) (he : e ≤ 5) : aCall aMt (d + 9) 59 [.ref 100, .int 3, .int (nI q), .int a, .int (nI e)] (HH I x y) = if m - k = 0 then some (some (.int 0), HH (aUpd (tA 101 100 1 (tA 101 100 1 I n 21) (n + 1) 13) 100 3 1) x y) else some (some (.int (a / (m - k) + vMk N N k m 1)), HH (tS 101 100 1 I n (21 :: 13 :: lMk N N)) x y) := by
  have g20 : ¬ (20 : Int32) ≤ nI e := nI_ge (b := 20) (by omega) (by omega)
  have h2 := h.ta (b := 21)
  have h3 := h2.ta (b := 13)
  have i1 := k_pt0 (d := d + 5) (I := tA 101 100 1 I n 21) (x := x) (y := y) (q := 0) (n := n + 1) (e := e + 1) (a := a) (by omega) h2 (by omega) (by omega)
  rw [nI_lit0] at i1
  rw [e_59]
  by_cases hz : m - k = 0
  · have f6 : aUpd (tA 101 100 1 (tA 101 100 1 I n 21) (n + 1) 13) 100 3 1 100 6 = nI N := by rw [aUpd_row, upd_ne (by omega)]; exact h3.2.2.2.2
    have i2 := k_quiet (d := d + 5) (I := aUpd (tA 101 100 1 (tA 101 100 1 I n 21) (n + 1) 13) 100 3 1) (x := x) (y := y) (e := e + 1) (a := 1) hN (by rw [aUpd_row, upd_eq])
    rw [if_pos hz] at i1 ⊢
    rcases hq with rfl | rfl <;>
      simp [s_59, aILoad, aRLoad, aLLoad, aIStore, aRStore, aPush, aBin, aBinL, aShL, aUn, aIf, aIc, aGet, aPut, aIald, aBald, aAald, aIast, aBast, aAast, aAlen, aCopy, aCallV, aCallC, aCallI, aRet, aCat, aMax, aMin, aDiv, aRem, aI2l, aL2i, aNul, aSwS, aSw, aInc, aDup, aDup2, aPop1, aIret, aAret, aVret, aLen, aFk, aFT, Value.category, c_sh, c_q, k_brs (H := HH I x y) st_sh.1 st_sh.2.2, h.1, h.2.1, h.2.2.1, h.2.2.2.1, h.2.2.2.2, st_sh, aSt, aBO, aKA, g20, k_begin h.1 (show n < 30 by omega), h2.2.1, h2.2.2.1, h2.2.2.2.1, h2.2.2.2.2, i1, f6, i2, nI_lit0, nI_lit1, show nI 2 = (2 : Int32) from rfl, show nI 3 = (3 : Int32) from rfl, show nI 4 = (4 : Int32) from rfl, show nI 5 = (5 : Int32) from rfl, show nI 6 = (6 : Int32) from rfl, nI_1]
  · have i2 := k_mk (d := d) (I := tA 101 100 1 (tA 101 100 1 I n 21) (n + 1) 13) (x := x) (y := y) (q := N) (n := n + 1 + 1) (e := e + 1) (a := 1) hN hN h3 (by omega) (by omega)
    rw [if_neg hz] at i1 ⊢
    rcases hq with rfl | rfl <;>
      simp [s_59, aILoad, aRLoad, aLLoad, aIStore, aRStore, aPush, aBin, aBinL, aShL, aUn, aIf, aIc, aGet, aPut, aIald, aBald, aAald, aIast, aBast, aAast, aAlen, aCopy, aCallV, aCallC, aCallI, aRet, aCat, aMax, aMin, aDiv, aRem, aI2l, aL2i, aNul, aSwS, aSw, aInc, aDup, aDup2, aPop1, aIret, aAret, aVret, aLen, aFk, aFT, Value.category, c_sh, c_q, k_brs (H := HH I x y) st_sh.1 st_sh.2.2, h.1, h.2.1, h.2.2.1, h.2.2.2.1, h.2.2.2.2, st_sh, aSt, aBO, aKA, g20, k_begin h.1 (show n < 30 by omega), h2.2.1, h2.2.2.1, h2.2.2.2.1, h2.2.2.2.2, h3.2.2.2.2, i1, i2, tS, nI_lit0, nI_lit1, show nI 2 = (2 : Int32) from rfl, show nI 3 = (3 : Int32) from rfl, show nI 4 = (4 : Int32) from rfl, show nI 5 = (5 : Int32) from rfl, show nI 6 = (6 : Int32) from rfl, nI_1]
theorem r_begins {n : Nat} {b : Int32} (h : I 113 14 = nI n) (hn : n < 30) : aCall aMt (d + 1) 196 [.ref 113, .int b] (HH I x y) = some (none, HH (tA 123 113 14 I n b) x y) := by
  have g1 : ¬ (30 : Int32) ≤ nI n := nI_ge (b := 30) hn (by omega)
  have e : aUpd I 123 n b 113 = I 113 := aUpd_ne (by omega)
  rw [e_196]
  simp [s_196, aILoad, aRLoad, aLLoad, aIStore, aRStore, aPush, aBin, aBinL, aShL, aUn, aIf, aIc, aGet, aPut, aIald, aBald, aAald, aIast, aBast, aAast, aAlen, aCopy, aCallV, aCallC, aCallI, aRet, aCat, aMax, aMin, aDiv, aRem, aI2l, aL2i, aNul, aSwS, aSw, aInc, aDup, aDup2, aPop1, aIret, aAret, aVret, aLen, aFk, aFT, Value.category, m_sh, m_p, h, g1, e, toNat_nI (show n < 2 ^ 31 by omega), nI_lt0 (show n < 2 ^ 31 by omega), show ¬ 30 ≤ n by omega, nI_1, tA]
theorem r_kindNow {n p N : Nat} {m : Int32} (hp : p < 8) (h : vR I n p N m) : aCall aMt (d + 2) 198 [.ref 113] (HH I x y) = some (some (.int (nI N)), HH I x y) := by
  have a0 : 10 + 5 * p + 0 = 10 + 5 * p := rfl
  rw [e_198]
  simp [s_198, aILoad, aRLoad, aLLoad, aIStore, aRStore, aPush, aBin, aBinL, aShL, aUn, aIf, aIc, aGet, aPut, aIald, aBald, aAald, aIast, aBast, aAast, aAlen, aCopy, aCallV, aCallC, aCallI, aRet, aCat, aMax, aMin, aDiv, aRem, aI2l, aL2i, aNul, aSwS, aSw, aInc, aDup, aDup2, aPop1, aIret, aAret, aVret, aLen, aFk, aFT, Value.category, m_sh, h.2.1, r_its hp, h.2.2.2.1]
theorem r_mNow {n p N : Nat} {m : Int32} (hp : p < 8) (h : vR I n p N m) : aCall aMt (d + 2) 199 [.ref 113] (HH I x y) = some (some (.int m), HH I x y) := by
  have a1 : 10 + 5 * p + 1 = 11 + 5 * p := by omega
  rw [e_199]
  simp [s_199, aILoad, aRLoad, aLLoad, aIStore, aRStore, aPush, aBin, aBinL, aShL, aUn, aIf, aIc, aGet, aPut, aIald, aBald, aAald, aIast, aBast, aAast, aAlen, aCopy, aCallV, aCallC, aCallI, aRet, aCat, aMax, aMin, aDiv, aRem, aI2l, aL2i, aNul, aSwS, aSw, aInc, aDup, aDup2, aPop1, aIret, aAret, aVret, aLen, aFk, aFT, Value.category, m_sh, h.2.1, r_its hp, a1, h.2.2.2.2]
theorem r_sn0 {n p N q : Nat} {m a : Int32} (hq : q = 0) (hp : p < 8) (hN : N ≤ 6) (h : vR I n p N m) (hn : n ≤ 25) : aCall aMt (d + 2) 200 [.ref 113, .int (nI q), .int a] (HH I x y) = some (some (.int (a + nI p)), HH (tS 123 113 14 I n ([10])) x y) := by
  have h2 := h.ta (b := 10)
  rw [e_200]
  rcases hq with rfl <;>
    simp [s_200, aILoad, aRLoad, aLLoad, aIStore, aRStore, aPush, aBin, aBinL, aShL, aUn, aIf, aIc, aGet, aPut, aIald, aBald, aAald, aIast, aBast, aAast, aAlen, aCopy, aCallV, aCallC, aCallI, aRet, aCat, aMax, aMin, aDiv, aRem, aI2l, aL2i, aNul, aSwS, aSw, aInc, aDup, aDup2, aPop1, aIret, aAret, aVret, aLen, aFk, aFT, Value.category, m_sh, m_p, r_above, h.2.1, r_begins h.1 (show n < 30 by omega), h2.2.1, h2.2.2.1, tS, nI_lit0, nI_lit1, show nI 2 = (2 : Int32) from rfl, show nI 3 = (3 : Int32) from rfl, show nI 4 = (4 : Int32) from rfl, show nI 5 = (5 : Int32) from rfl, show nI 6 = (6 : Int32) from rfl, nI_1]
theorem r_sn2 {n p N q : Nat} {m a : Int32} (hq : q = 2 ∨ q = 3) (hp : p < 8) (hN : N ≤ 6) (h : vR I n p N m) (hn : n ≤ 25) : aCall aMt (d + 3) 200 [.ref 113, .int (nI q), .int a] (HH I x y) = some (some (.int (a + nI p)), HH (tS 123 113 14 I n ([10])) x y) := by
  have i1 := r_sn0 (d := d) (I := I) (x := x) (y := y) (q := 0) (n := n) (a := a) (by omega) hp hN h (by omega)
  rw [nI_lit0] at i1
  rw [e_200]
  rcases hq with rfl | rfl <;>
    simp [s_200, aILoad, aRLoad, aLLoad, aIStore, aRStore, aPush, aBin, aBinL, aShL, aUn, aIf, aIc, aGet, aPut, aIald, aBald, aAald, aIast, aBast, aAast, aAlen, aCopy, aCallV, aCallC, aCallI, aRet, aCat, aMax, aMin, aDiv, aRem, aI2l, aL2i, aNul, aSwS, aSw, aInc, aDup, aDup2, aPop1, aIret, aAret, aVret, aLen, aFk, aFT, Value.category, m_sh, m_p, r_above, h.2.1, i1, tS, nI_lit0, nI_lit1, show nI 2 = (2 : Int32) from rfl, show nI 3 = (3 : Int32) from rfl, show nI 4 = (4 : Int32) from rfl, show nI 5 = (5 : Int32) from rfl, show nI 6 = (6 : Int32) from rfl, nI_1]
theorem r_sn5 {n p N q : Nat} {m a : Int32} (hq : q = 5) (hp : p < 8) (hN : N ≤ 6) (h : vR I n p N m) (hn : n ≤ 25) : aCall aMt (d + 4) 200 [.ref 113, .int (nI q), .int a] (HH I x y) = some (some (.int (a + nI p)), HH (tS 123 113 14 I n ([10])) x y) := by
  have i1 := r_sn2 (d := d) (I := I) (x := x) (y := y) (q := 2) (n := n) (a := a) (by omega) hp hN h (by omega)
  rw [show nI 2 = (2 : Int32) from rfl] at i1
  rw [e_200]
  rcases hq with rfl <;>
    simp [s_200, aILoad, aRLoad, aLLoad, aIStore, aRStore, aPush, aBin, aBinL, aShL, aUn, aIf, aIc, aGet, aPut, aIald, aBald, aAald, aIast, aBast, aAast, aAlen, aCopy, aCallV, aCallC, aCallI, aRet, aCat, aMax, aMin, aDiv, aRem, aI2l, aL2i, aNul, aSwS, aSw, aInc, aDup, aDup2, aPop1, aIret, aAret, aVret, aLen, aFk, aFT, Value.category, m_sh, m_p, r_above, h.2.1, i1, tS, nI_lit0, nI_lit1, show nI 2 = (2 : Int32) from rfl, show nI 3 = (3 : Int32) from rfl, show nI 4 = (4 : Int32) from rfl, show nI 5 = (5 : Int32) from rfl, show nI 6 = (6 : Int32) from rfl, nI_1]
theorem r_sn1 {n p N q : Nat} {m a : Int32} (hq : q = 1) (hp : p < 8) (hN : N ≤ 6) (h : vR I n p N m) (hn : n ≤ 20) : aCall aMt (d + 3) 200 [.ref 113, .int (nI q), .int a] (HH I x y) = some (some (.int (a + nI p - 4)), HH (tS 123 113 14 I n ([20, 10])) x y) := by
  have h2 := h.ta (b := 20)
  have i1 := r_sn0 (d := d) (I := tA 123 113 14 I n 20) (x := x) (y := y) (q := 0) (n := n + 1) (a := a) (by omega) hp hN h2 (by omega)
  rw [nI_lit0] at i1
  rw [e_200]
  rcases hq with rfl <;>
    simp [s_200, aILoad, aRLoad, aLLoad, aIStore, aRStore, aPush, aBin, aBinL, aShL, aUn, aIf, aIc, aGet, aPut, aIald, aBald, aAald, aIast, aBast, aAast, aAlen, aCopy, aCallV, aCallC, aCallI, aRet, aCat, aMax, aMin, aDiv, aRem, aI2l, aL2i, aNul, aSwS, aSw, aInc, aDup, aDup2, aPop1, aIret, aAret, aVret, aLen, aFk, aFT, Value.category, m_sh, m_p, r_above, h.2.1, r_begins h.1 (show n < 30 by omega), h2.2.1, h2.2.2.1, i1, tS, nI_lit0, nI_lit1, show nI 2 = (2 : Int32) from rfl, show nI 3 = (3 : Int32) from rfl, show nI 4 = (4 : Int32) from rfl, show nI 5 = (5 : Int32) from rfl, show nI 6 = (6 : Int32) from rfl, nI_1]
theorem r_sn4 {n p N q : Nat} {m a : Int32} (hq : q = 4) (hp : p < 8) (hN : N ≤ 6) (h : vR I n p N m) (hn : n ≤ 19) : aCall aMt (d + 4) 200 [.ref 113, .int (nI q), .int a] (HH I x y) = some (some (.int ((a + nI p - 4) * 3)), HH (tS 123 113 14 I n ([50, 20, 10])) x y) := by
  have h2 := h.ta (b := 50)
  have i1 := r_sn1 (d := d) (I := tA 123 113 14 I n 50) (x := x) (y := y) (q := 1) (n := n + 1) (a := a) (by omega) hp hN h2 (by omega)
  rw [nI_lit1] at i1
  rw [e_200]
  rcases hq with rfl <;>
    simp [s_200, aILoad, aRLoad, aLLoad, aIStore, aRStore, aPush, aBin, aBinL, aShL, aUn, aIf, aIc, aGet, aPut, aIald, aBald, aAald, aIast, aBast, aAast, aAlen, aCopy, aCallV, aCallC, aCallI, aRet, aCat, aMax, aMin, aDiv, aRem, aI2l, aL2i, aNul, aSwS, aSw, aInc, aDup, aDup2, aPop1, aIret, aAret, aVret, aLen, aFk, aFT, Value.category, m_sh, m_p, r_above, h.2.1, r_begins h.1 (show n < 30 by omega), h2.2.1, h2.2.2.1, i1, tS, nI_lit0, nI_lit1, show nI 2 = (2 : Int32) from rfl, show nI 3 = (3 : Int32) from rfl, show nI 4 = (4 : Int32) from rfl, show nI 5 = (5 : Int32) from rfl, show nI 6 = (6 : Int32) from rfl, nI_1]
theorem r_sn6 {n p N q : Nat} {m a : Int32} (hq : q = 6) (hp : p < 8) (hN : N ≤ 6) (h : vR I n p N m) (hn : n ≤ 20) : aCall aMt (d + 2) 200 [.ref 113, .int (nI q), .int a] (HH I x y) = some (some (.int (9)), HH (tS 123 113 14 I n ([70])) x y) := by
  have h2 := h.ta (b := 70)
  rw [e_200]
  rcases hq with rfl <;>
    simp [s_200, aILoad, aRLoad, aLLoad, aIStore, aRStore, aPush, aBin, aBinL, aShL, aUn, aIf, aIc, aGet, aPut, aIald, aBald, aAald, aIast, aBast, aAast, aAlen, aCopy, aCallV, aCallC, aCallI, aRet, aCat, aMax, aMin, aDiv, aRem, aI2l, aL2i, aNul, aSwS, aSw, aInc, aDup, aDup2, aPop1, aIret, aAret, aVret, aLen, aFk, aFT, Value.category, m_sh, m_p, r_above, h.2.1, r_begins h.1 (show n < 30 by omega), h2.2.1, h2.2.2.1, tS, nI_lit0, nI_lit1, show nI 2 = (2 : Int32) from rfl, show nI 3 = (3 : Int32) from rfl, show nI 4 = (4 : Int32) from rfl, show nI 5 = (5 : Int32) from rfl, show nI 6 = (6 : Int32) from rfl, nI_1]
theorem r_sn {n p N q : Nat} {m a : Int32} (hq : q ≤ 6) (hp : p < 8) (hN : N ≤ 6) (h : vR I n p N m) (hn : n ≤ 19) : aCall aMt (d + 4) 200 [.ref 113, .int (nI q), .int a] (HH I x y) = some (some (.int (vSn q (nI p) a)), HH (tS 123 113 14 I n (lSn q)) x y) := by
  have hq' : q = 0 ∨ q = 1 ∨ q = 2 ∨ q = 3 ∨ q = 4 ∨ q = 5 ∨ q = 6 := by omega
  rcases hq' with rfl | rfl | rfl | rfl | rfl | rfl | rfl
  · exact r_sn0 (d := d + 2) (by omega) hp hN h (by omega)
  · exact r_sn1 (d := d + 1) (by omega) hp hN h (by omega)
  · exact r_sn2 (d := d + 1) (by omega) hp hN h (by omega)
  · exact r_sn2 (d := d + 1) (by omega) hp hN h (by omega)
  · exact r_sn4 (d := d) (by omega) hp hN h (by omega)
  · exact r_sn5 (d := d) (by omega) hp hN h (by omega)
  · exact r_sn6 (d := d + 2) (by omega) hp hN h (by omega)
theorem r_mk0 {n p N q : Nat} {m a : Int32} (hq : q = 0) (hp : p < 8) (hN : N ≤ 6) (h : vR I n p N m) (hn : n ≤ 18) : aCall aMt (d + 5) 201 [.ref 113, .int (nI q), .int a] (HH I x y) = some (some (.int (vSn N (nI p) a * 2)), HH (tS 123 113 14 I n (11 :: lSn N)) x y) := by
  have h2 := h.ta (b := 11)
  have i1 := r_sn (d := d) (I := tA 123 113 14 I n 11) (x := x) (y := y) (q := N) (n := n + 1) (a := a) (by omega) hp hN h2 (by omega)
  rw [e_201]
  rcases hq with rfl <;>
    simp [s_201, aILoad, aRLoad, aLLoad, aIStore, aRStore, aPush, aBin, aBinL, aShL, aUn, aIf, aIc, aGet, aPut, aIald, aBald, aAald, aIast, aBast, aAast, aAlen, aCopy, aCallV, aCallC, aCallI, aRet, aCat, aMax, aMin, aDiv, aRem, aI2l, aL2i, aNul, aSwS, aSw, aInc, aDup, aDup2, aPop1, aIret, aAret, aVret, aLen, aFk, aFT, Value.category, m_sh, m_p, r_above, h.2.1, r_begins h.1 (show n < 30 by omega), h2.2.1, h2.2.2.1, i1, r_kindNow hp h2, tS, nI_lit0, nI_lit1, show nI 2 = (2 : Int32) from rfl, show nI 3 = (3 : Int32) from rfl, show nI 4 = (4 : Int32) from rfl, show nI 5 = (5 : Int32) from rfl, show nI 6 = (6 : Int32) from rfl, nI_1]
theorem r_mk1 {n p N q : Nat} {m a : Int32} (hq : q = 1 ∨ q = 3) (hp : p < 8) (hN : N ≤ 6) (h : vR I n p N m) (hn : n ≤ 18) : aCall aMt (d + 6) 201 [.ref 113, .int (nI q), .int a] (HH I x y) = some (some (.int (vSn N (nI p) a * 2)), HH (tS 123 113 14 I n (11 :: lSn N)) x y) := by
  have i1 := r_mk0 (d := d) (I := I) (x := x) (y := y) (q := 0) (n := n) (a := a) (by omega) hp hN h (by omega)
  rw [nI_lit0, tS] at i1
  rw [e_201]
  rcases hq with rfl | rfl <;>
    simp [s_201, aILoad, aRLoad, aLLoad, aIStore, aRStore, aPush, aBin, aBinL, aShL, aUn, aIf, aIc, aGet, aPut, aIald, aBald, aAald, aIast, aBast, aAast, aAlen, aCopy, aCallV, aCallC, aCallI, aRet, aCat, aMax, aMin, aDiv, aRem, aI2l, aL2i, aNul, aSwS, aSw, aInc, aDup, aDup2, aPop1, aIret, aAret, aVret, aLen, aFk, aFT, Value.category, m_sh, m_p, r_above, h.2.1, i1, tS, nI_lit0, nI_lit1, show nI 2 = (2 : Int32) from rfl, show nI 3 = (3 : Int32) from rfl, show nI 4 = (4 : Int32) from rfl, show nI 5 = (5 : Int32) from rfl, show nI 6 = (6 : Int32) from rfl, nI_1]
theorem r_mk4 {n p N q : Nat} {m a : Int32} (hq : q = 4) (hp : p < 8) (hN : N ≤ 6) (h : vR I n p N m) (hn : n ≤ 18) : aCall aMt (d + 7) 201 [.ref 113, .int (nI q), .int a] (HH I x y) = some (some (.int (vSn N (nI p) a * 2)), HH (tS 123 113 14 I n (11 :: lSn N)) x y) := by
  have i1 := r_mk1 (d := d) (I := I) (x := x) (y := y) (q := 1) (n := n) (a := a) (by omega) hp hN h (by omega)
  rw [nI_lit1, tS] at i1
  rw [e_201]
  rcases hq with rfl <;>
    simp [s_201, aILoad, aRLoad, aLLoad, aIStore, aRStore, aPush, aBin, aBinL, aShL, aUn, aIf, aIc, aGet, aPut, aIald, aBald, aAald, aIast, aBast, aAast, aAlen, aCopy, aCallV, aCallC, aCallI, aRet, aCat, aMax, aMin, aDiv, aRem, aI2l, aL2i, aNul, aSwS, aSw, aInc, aDup, aDup2, aPop1, aIret, aAret, aVret, aLen, aFk, aFT, Value.category, m_sh, m_p, r_above, h.2.1, i1, tS, nI_lit0, nI_lit1, show nI 2 = (2 : Int32) from rfl, show nI 3 = (3 : Int32) from rfl, show nI 4 = (4 : Int32) from rfl, show nI 5 = (5 : Int32) from rfl, show nI 6 = (6 : Int32) from rfl, nI_1]
theorem r_mk2 {n p N q : Nat} {m a : Int32} (hq : q = 2) (hp : p < 8) (hN : N ≤ 6) (h : vR I n p N m) (hn : n ≤ 17) : aCall aMt (d + 6) 201 [.ref 113, .int (nI q), .int a] (HH I x y) = some (some (.int (0 - vSn N (nI p) a * 2)), HH (tS 123 113 14 I n (30 :: 11 :: lSn N)) x y) := by
  have h2 := h.ta (b := 30)
  have i1 := r_mk0 (d := d) (I := tA 123 113 14 I n 30) (x := x) (y := y) (q := 0) (n := n + 1) (a := a) (by omega) hp hN h2 (by omega)
  rw [nI_lit0, tS] at i1
  rw [e_201]
  rcases hq with rfl <;>
    simp [s_201, aILoad, aRLoad, aLLoad, aIStore, aRStore, aPush, aBin, aBinL, aShL, aUn, aIf, aIc, aGet, aPut, aIald, aBald, aAald, aIast, aBast, aAast, aAlen, aCopy, aCallV, aCallC, aCallI, aRet, aCat, aMax, aMin, aDiv, aRem, aI2l, aL2i, aNul, aSwS, aSw, aInc, aDup, aDup2, aPop1, aIret, aAret, aVret, aLen, aFk, aFT, Value.category, m_sh, m_p, r_above, h.2.1, r_begins h.1 (show n < 30 by omega), h2.2.1, h2.2.2.1, i1, tS, nI_lit0, nI_lit1, show nI 2 = (2 : Int32) from rfl, show nI 3 = (3 : Int32) from rfl, show nI 4 = (4 : Int32) from rfl, show nI 5 = (5 : Int32) from rfl, show nI 6 = (6 : Int32) from rfl, nI_1]
theorem r_mk5 {n p N q : Nat} {m a : Int32} (hq : q = 5) (hp : p < 8) (hN : N ≤ 6) (h : vR I n p N m) (hn : n ≤ 16) : aCall aMt (d + 7) 201 [.ref 113, .int (nI q), .int a] (HH I x y) = some (some (.int (0 - vSn N (nI p) (a + 1) * 2)), HH (tS 123 113 14 I n (60 :: 30 :: 11 :: lSn N)) x y) := by
  have h2 := h.ta (b := 60)
  have i1 := r_mk2 (d := d) (I := tA 123 113 14 I n 60) (x := x) (y := y) (q := 2) (n := n + 1) (a := a + 1) (by omega) hp hN h2 (by omega)
  rw [show nI 2 = (2 : Int32) from rfl, tS, tS] at i1
  rw [e_201]
  rcases hq with rfl <;>
    simp [s_201, aILoad, aRLoad, aLLoad, aIStore, aRStore, aPush, aBin, aBinL, aShL, aUn, aIf, aIc, aGet, aPut, aIald, aBald, aAald, aIast, aBast, aAast, aAlen, aCopy, aCallV, aCallC, aCallI, aRet, aCat, aMax, aMin, aDiv, aRem, aI2l, aL2i, aNul, aSwS, aSw, aInc, aDup, aDup2, aPop1, aIret, aAret, aVret, aLen, aFk, aFT, Value.category, m_sh, m_p, r_above, h.2.1, r_begins h.1 (show n < 30 by omega), h2.2.1, h2.2.2.1, i1, tS, nI_lit0, nI_lit1, show nI 2 = (2 : Int32) from rfl, show nI 3 = (3 : Int32) from rfl, show nI 4 = (4 : Int32) from rfl, show nI 5 = (5 : Int32) from rfl, show nI 6 = (6 : Int32) from rfl, nI_1]
theorem r_mk6 {n p N q : Nat} {m a : Int32} (hq : q = 6) (hp : p < 8) (hN : N ≤ 6) (h : vR I n p N m) (hn : n ≤ 17) : aCall aMt (d + 6) 201 [.ref 113, .int (nI q), .int a] (HH I x y) = some (some (.int (vSn N (nI p) a * 2 + m)), HH (tS 123 113 14 I n (71 :: 11 :: lSn N)) x y) := by
  have h2 := h.ta (b := 71)
  have i1 := r_mk0 (d := d) (I := tA 123 113 14 I n 71) (x := x) (y := y) (q := 0) (n := n + 1) (a := a) (by omega) hp hN h2 (by omega)
  rw [nI_lit0, tS] at i1
  have h3 := (h2.ta (b := 11)).ts (l := lSn N)
  rw [e_201]
  rcases hq with rfl <;>
    simp [s_201, aILoad, aRLoad, aLLoad, aIStore, aRStore, aPush, aBin, aBinL, aShL, aUn, aIf, aIc, aGet, aPut, aIald, aBald, aAald, aIast, aBast, aAast, aAlen, aCopy, aCallV, aCallC, aCallI, aRet, aCat, aMax, aMin, aDiv, aRem, aI2l, aL2i, aNul, aSwS, aSw, aInc, aDup, aDup2, aPop1, aIret, aAret, aVret, aLen, aFk, aFT, Value.category, m_sh, m_p, r_above, h.2.1, r_begins h.1 (show n < 30 by omega), h2.2.1, h2.2.2.1, i1, r_mNow hp h3, tS, nI_lit0, nI_lit1, show nI 2 = (2 : Int32) from rfl, show nI 3 = (3 : Int32) from rfl, show nI 4 = (4 : Int32) from rfl, show nI 5 = (5 : Int32) from rfl, show nI 6 = (6 : Int32) from rfl, nI_1]
theorem r_mk {n p N q : Nat} {m a : Int32} (hq : q ≤ 6) (hp : p < 8) (hN : N ≤ 6) (h : vR I n p N m) (hn : n ≤ 16) : aCall aMt (d + 7) 201 [.ref 113, .int (nI q), .int a] (HH I x y) = some (some (.int (vMk N q (nI p) m a)), HH (tS 123 113 14 I n (lMk N q)) x y) := by
  have hq' : q = 0 ∨ q = 1 ∨ q = 2 ∨ q = 3 ∨ q = 4 ∨ q = 5 ∨ q = 6 := by omega
  rcases hq' with rfl | rfl | rfl | rfl | rfl | rfl | rfl
  · exact r_mk0 (d := d + 2) (by omega) hp hN h (by omega)
  · exact r_mk1 (d := d + 1) (by omega) hp hN h (by omega)
  · exact r_mk2 (d := d + 1) (by omega) hp hN h (by omega)
  · exact r_mk1 (d := d + 1) (by omega) hp hN h (by omega)
  · exact r_mk4 (d := d) (by omega) hp hN h (by omega)
  · exact r_mk5 (d := d) (by omega) hp hN h (by omega)
  · exact r_mk6 (d := d + 1) (by omega) hp hN h (by omega)
theorem r_sw0 {n p N q : Nat} {m a : Int32} (hq : q = 0) (hp : p < 8) (hN : N ≤ 6) (h : vR I n p N m) (hn : n ≤ 15) : aCall aMt (d + 8) 202 [.ref 113, .int (nI q), .int a] (HH I x y) = some (some (.int (vMk N N (nI p) m a - m)), HH (tS 123 113 14 I n (12 :: lMk N N)) x y) := by
  have h2 := h.ta (b := 12)
  have i1 := r_mk (d := d) (I := tA 123 113 14 I n 12) (x := x) (y := y) (q := N) (n := n + 1) (a := a) (by omega) hp hN h2 (by omega)
  have h3 := h2.ts (l := lMk N N)
  rw [e_202]
  rcases hq with rfl <;>
    simp [s_202, aILoad, aRLoad, aLLoad, aIStore, aRStore, aPush, aBin, aBinL, aShL, aUn, aIf, aIc, aGet, aPut, aIald, aBald, aAald, aIast, aBast, aAast, aAlen, aCopy, aCallV, aCallC, aCallI, aRet, aCat, aMax, aMin, aDiv, aRem, aI2l, aL2i, aNul, aSwS, aSw, aInc, aDup, aDup2, aPop1, aIret, aAret, aVret, aLen, aFk, aFT, Value.category, m_sh, m_p, r_above, h.2.1, r_begins h.1 (show n < 30 by omega), h2.2.1, h2.2.2.1, i1, r_kindNow hp h2, r_mNow hp h3, tS, nI_lit0, nI_lit1, show nI 2 = (2 : Int32) from rfl, show nI 3 = (3 : Int32) from rfl, show nI 4 = (4 : Int32) from rfl, show nI 5 = (5 : Int32) from rfl, show nI 6 = (6 : Int32) from rfl, nI_1]
theorem r_sw1 {n p N q : Nat} {m a : Int32} (hq : q = 1 ∨ q = 2 ∨ q = 6) (hp : p < 8) (hN : N ≤ 6) (h : vR I n p N m) (hn : n ≤ 15) : aCall aMt (d + 9) 202 [.ref 113, .int (nI q), .int a] (HH I x y) = some (some (.int (vMk N N (nI p) m a - m)), HH (tS 123 113 14 I n (12 :: lMk N N)) x y) := by
  have i1 := r_sw0 (d := d) (I := I) (x := x) (y := y) (q := 0) (n := n) (a := a) (by omega) hp hN h (by omega)
  rw [nI_lit0, tS] at i1
  rw [e_202]
  rcases hq with rfl | rfl | rfl <;>
    simp [s_202, aILoad, aRLoad, aLLoad, aIStore, aRStore, aPush, aBin, aBinL, aShL, aUn, aIf, aIc, aGet, aPut, aIald, aBald, aAald, aIast, aBast, aAast, aAlen, aCopy, aCallV, aCallC, aCallI, aRet, aCat, aMax, aMin, aDiv, aRem, aI2l, aL2i, aNul, aSwS, aSw, aInc, aDup, aDup2, aPop1, aIret, aAret, aVret, aLen, aFk, aFT, Value.category, m_sh, m_p, r_above, h.2.1, i1, tS, nI_lit0, nI_lit1, show nI 2 = (2 : Int32) from rfl, show nI 3 = (3 : Int32) from rfl, show nI 4 = (4 : Int32) from rfl, show nI 5 = (5 : Int32) from rfl, show nI 6 = (6 : Int32) from rfl, nI_1]
theorem r_sw5 {n p N q : Nat} {m a : Int32} (hq : q = 5) (hp : p < 8) (hN : N ≤ 6) (h : vR I n p N m) (hn : n ≤ 15) : aCall aMt (d + 10) 202 [.ref 113, .int (nI q), .int a] (HH I x y) = some (some (.int (vMk N N (nI p) m a - m)), HH (tS 123 113 14 I n (12 :: lMk N N)) x y) := by
  have i1 := r_sw1 (d := d) (I := I) (x := x) (y := y) (q := 2) (n := n) (a := a) (by omega) hp hN h (by omega)
  rw [show nI 2 = (2 : Int32) from rfl, tS] at i1
  rw [e_202]
  rcases hq with rfl <;>
    simp [s_202, aILoad, aRLoad, aLLoad, aIStore, aRStore, aPush, aBin, aBinL, aShL, aUn, aIf, aIc, aGet, aPut, aIald, aBald, aAald, aIast, aBast, aAast, aAlen, aCopy, aCallV, aCallC, aCallI, aRet, aCat, aMax, aMin, aDiv, aRem, aI2l, aL2i, aNul, aSwS, aSw, aInc, aDup, aDup2, aPop1, aIret, aAret, aVret, aLen, aFk, aFT, Value.category, m_sh, m_p, r_above, h.2.1, i1, tS, nI_lit0, nI_lit1, show nI 2 = (2 : Int32) from rfl, show nI 3 = (3 : Int32) from rfl, show nI 4 = (4 : Int32) from rfl, show nI 5 = (5 : Int32) from rfl, show nI 6 = (6 : Int32) from rfl, nI_1]
theorem r_sw3 {n p N q : Nat} {m a : Int32} (hq : q = 3) (hp : p < 8) (hN : N ≤ 6) (h : vR I n p N m) (hn : n ≤ 14) : aCall aMt (d + 9) 202 [.ref 113, .int (nI q), .int a] (HH I x y) = some (some (.int (vMk N N (nI p) m (a / 2) - m)), HH (tS 123 113 14 I n (40 :: 12 :: lMk N N)) x y) := by
  have h2 := h.ta (b := 40)
  have i1 := r_sw0 (d := d) (I := tA 123 113 14 I n 40) (x := x) (y := y) (q := 0) (n := n + 1) (a := a / 2) (by omega) hp hN h2 (by omega)
  rw [nI_lit0, tS] at i1
  rw [e_202]
  rcases hq with rfl <;>
    simp [s_202, aILoad, aRLoad, aLLoad, aIStore, aRStore, aPush, aBin, aBinL, aShL, aUn, aIf, aIc, aGet, aPut, aIald, aBald, aAald, aIast, aBast, aAast, aAlen, aCopy, aCallV, aCallC, aCallI, aRet, aCat, aMax, aMin, aDiv, aRem, aI2l, aL2i, aNul, aSwS, aSw, aInc, aDup, aDup2, aPop1, aIret, aAret, aVret, aLen, aFk, aFT, Value.category, m_sh, m_p, r_above, h.2.1, r_begins h.1 (show n < 30 by omega), h2.2.1, h2.2.2.1, i1, tS, nI_lit0, nI_lit1, show nI 2 = (2 : Int32) from rfl, show nI 3 = (3 : Int32) from rfl, show nI 4 = (4 : Int32) from rfl, show nI 5 = (5 : Int32) from rfl, show nI 6 = (6 : Int32) from rfl, nI_1]
theorem r_sw4 {n p N q : Nat} {m a : Int32} (hq : q = 4) (hp : p < 8) (hN : N ≤ 6) (h : vR I n p N m) (hn : n ≤ 14) : aCall aMt (d + 10) 202 [.ref 113, .int (nI q), .int a] (HH I x y) = some (some (.int ((vMk N N (nI p) m a - m) ^^^ nI p)), HH (tS 123 113 14 I n (51 :: 12 :: lMk N N)) x y) := by
  have h2 := h.ta (b := 51)
  have i1 := r_sw1 (d := d) (I := tA 123 113 14 I n 51) (x := x) (y := y) (q := 1) (n := n + 1) (a := a) (by omega) hp hN h2 (by omega)
  rw [nI_lit1, tS] at i1
  have h3 := (h2.ta (b := 12)).ts (l := lMk N N)
  rw [e_202]
  rcases hq with rfl <;>
    simp [s_202, aILoad, aRLoad, aLLoad, aIStore, aRStore, aPush, aBin, aBinL, aShL, aUn, aIf, aIc, aGet, aPut, aIald, aBald, aAald, aIast, aBast, aAast, aAlen, aCopy, aCallV, aCallC, aCallI, aRet, aCat, aMax, aMin, aDiv, aRem, aI2l, aL2i, aNul, aSwS, aSw, aInc, aDup, aDup2, aPop1, aIret, aAret, aVret, aLen, aFk, aFT, Value.category, m_sh, m_p, r_above, h.2.1, r_begins h.1 (show n < 30 by omega), h2.2.1, h2.2.2.1, i1, h3.2.1, tS, nI_lit0, nI_lit1, show nI 2 = (2 : Int32) from rfl, show nI 3 = (3 : Int32) from rfl, show nI 4 = (4 : Int32) from rfl, show nI 5 = (5 : Int32) from rfl, show nI 6 = (6 : Int32) from rfl, nI_1]
theorem r_sw {n p N q : Nat} {m a : Int32} (hq : q ≤ 6) (hp : p < 8) (hN : N ≤ 6) (h : vR I n p N m) (hn : n ≤ 14) : aCall aMt (d + 10) 202 [.ref 113, .int (nI q), .int a] (HH I x y) = some (some (.int (vSw N q (nI p) m a)), HH (tS 123 113 14 I n (lSw N q)) x y) := by
  have hq' : q = 0 ∨ q = 1 ∨ q = 2 ∨ q = 3 ∨ q = 4 ∨ q = 5 ∨ q = 6 := by omega
  rcases hq' with rfl | rfl | rfl | rfl | rfl | rfl | rfl
  · exact r_sw0 (d := d + 2) (by omega) hp hN h (by omega)
  · exact r_sw1 (d := d + 1) (by omega) hp hN h (by omega)
  · exact r_sw1 (d := d + 1) (by omega) hp hN h (by omega)
  · exact r_sw3 (d := d + 1) (by omega) hp hN h (by omega)
  · exact r_sw4 (d := d) (by omega) hp hN h (by omega)
  · exact r_sw5 (d := d) (by omega) hp hN h (by omega)
  · exact r_sw1 (d := d + 1) (by omega) hp hN h (by omega)
theorem r_pt0 {n p N : Nat} {m a : Int32} (hp : p < 8) (h : vR I n p N m) (hn : n ≤ 20) : aCall aMt (d + 3) 203 [.ref 113, .int 0, .int a] (HH I x y) = if m - nI p = 0 then some (some (.int 0), HH (aUpd (tA 123 113 14 I n 13) 113 17 1) x y) else some (some (.int (a / (m - nI p))), HH (tA 123 113 14 I n 13) x y) := by
  have h2 := h.ta (b := 13)
  rw [e_203]
  by_cases hz : m - nI p = 0
  · simp [s_203, aILoad, aRLoad, aLLoad, aIStore, aRStore, aPush, aBin, aBinL, aShL, aUn, aIf, aIc, aGet, aPut, aIald, aBald, aAald, aIast, aBast, aAast, aAlen, aCopy, aCallV, aCallC, aCallI, aRet, aCat, aMax, aMin, aDiv, aRem, aI2l, aL2i, aNul, aSwS, aSw, aInc, aDup, aDup2, aPop1, aIret, aAret, aVret, aLen, aFk, aFT, Value.category, m_sh, m_p, r_begins h.1 (show n < 30 by omega), r_mNow hp h2, h2.2.1, hz]
  · have e0 := aUpd_self h2.2.2.1
    by_cases h1 : m - nI p = -1
    · have hv := i32_div_m1 a
      simp [s_203, aILoad, aRLoad, aLLoad, aIStore, aRStore, aPush, aBin, aBinL, aShL, aUn, aIf, aIc, aGet, aPut, aIald, aBald, aAald, aIast, aBast, aAast, aAlen, aCopy, aCallV, aCallC, aCallI, aRet, aCat, aMax, aMin, aDiv, aRem, aI2l, aL2i, aNul, aSwS, aSw, aInc, aDup, aDup2, aPop1, aIret, aAret, aVret, aLen, aFk, aFT, Value.category, m_sh, m_p, r_begins h.1 (show n < 30 by omega), r_mNow hp h2, h2.2.1, h1, e0, hv]
    · simp [s_203, aILoad, aRLoad, aLLoad, aIStore, aRStore, aPush, aBin, aBinL, aShL, aUn, aIf, aIc, aGet, aPut, aIald, aBald, aAald, aIast, aBast, aAast, aAlen, aCopy, aCallV, aCallC, aCallI, aRet, aCat, aMax, aMin, aDiv, aRem, aI2l, aL2i, aNul, aSwS, aSw, aInc, aDup, aDup2, aPop1, aIret, aAret, aVret, aLen, aFk, aFT, Value.category, m_sh, m_p, r_begins h.1 (show n < 30 by omega), r_mNow hp h2, h2.2.1, hz, h1, e0]
theorem r_pt2 {n p N q : Nat} {m a : Int32} (hq : q = 0 ∨ q = 2 ∨ q = 3 ∨ q = 5 ∨ q = 6) (hp : p < 8) (h : vR I n p N m) (hn : n ≤ 20) : aCall aMt (d + 5) 203 [.ref 113, .int (nI q), .int a] (HH I x y) = if m - nI p = 0 then some (some (.int 0), HH (aUpd (tA 123 113 14 I n 13) 113 17 1) x y) else some (some (.int (a / (m - nI p))), HH (tA 123 113 14 I n 13) x y) := by
  have i1 := fun d => r_pt0 (d := d) (I := I) (x := x) (y := y) (a := a) hp h hn
  by_cases hz : m - nI p = 0
  · simp only [hz, if_true] at i1 ⊢
    rcases hq with rfl | rfl | rfl | rfl | rfl
    · exact i1 (d + 2)
    · rw [e_203]; simp [s_203, aILoad, aRLoad, aLLoad, aIStore, aRStore, aPush, aBin, aBinL, aShL, aUn, aIf, aIc, aGet, aPut, aIald, aBald, aAald, aIast, aBast, aAast, aAlen, aCopy, aCallV, aCallC, aCallI, aRet, aCat, aMax, aMin, aDiv, aRem, aI2l, aL2i, aNul, aSwS, aSw, aInc, aDup, aDup2, aPop1, aIret, aAret, aVret, aLen, aFk, aFT, Value.category, m_sh, m_p, r_above, i1 (d + 1), show nI 2 = (2 : Int32) from rfl]
    · rw [e_203]; simp [s_203, aILoad, aRLoad, aLLoad, aIStore, aRStore, aPush, aBin, aBinL, aShL, aUn, aIf, aIc, aGet, aPut, aIald, aBald, aAald, aIast, aBast, aAast, aAlen, aCopy, aCallV, aCallC, aCallI, aRet, aCat, aMax, aMin, aDiv, aRem, aI2l, aL2i, aNul, aSwS, aSw, aInc, aDup, aDup2, aPop1, aIret, aAret, aVret, aLen, aFk, aFT, Value.category, m_sh, m_p, r_above, i1 (d + 1), show nI 3 = (3 : Int32) from rfl]
    · have i2 : aCall aMt (d + 4) 203 [.ref 113, .int 2, .int a] (HH I x y) = some (some (.int 0), HH (aUpd (tA 123 113 14 I n 13) 113 17 1) x y) := by rw [e_203]; simp [s_203, aILoad, aRLoad, aLLoad, aIStore, aRStore, aPush, aBin, aBinL, aShL, aUn, aIf, aIc, aGet, aPut, aIald, aBald, aAald, aIast, aBast, aAast, aAlen, aCopy, aCallV, aCallC, aCallI, aRet, aCat, aMax, aMin, aDiv, aRem, aI2l, aL2i, aNul, aSwS, aSw, aInc, aDup, aDup2, aPop1, aIret, aAret, aVret, aLen, aFk, aFT, Value.category, m_sh, m_p, r_above, i1 d]
      rw [e_203]; simp [s_203, aILoad, aRLoad, aLLoad, aIStore, aRStore, aPush, aBin, aBinL, aShL, aUn, aIf, aIc, aGet, aPut, aIald, aBald, aAald, aIast, aBast, aAast, aAlen, aCopy, aCallV, aCallC, aCallI, aRet, aCat, aMax, aMin, aDiv, aRem, aI2l, aL2i, aNul, aSwS, aSw, aInc, aDup, aDup2, aPop1, aIret, aAret, aVret, aLen, aFk, aFT, Value.category, m_sh, m_p, r_above, i2, show nI 5 = (5 : Int32) from rfl]
    · rw [e_203]; simp [s_203, aILoad, aRLoad, aLLoad, aIStore, aRStore, aPush, aBin, aBinL, aShL, aUn, aIf, aIc, aGet, aPut, aIald, aBald, aAald, aIast, aBast, aAast, aAlen, aCopy, aCallV, aCallC, aCallI, aRet, aCat, aMax, aMin, aDiv, aRem, aI2l, aL2i, aNul, aSwS, aSw, aInc, aDup, aDup2, aPop1, aIret, aAret, aVret, aLen, aFk, aFT, Value.category, m_sh, m_p, r_above, i1 (d + 1), show nI 6 = (6 : Int32) from rfl]
  · simp only [hz, if_false] at i1 ⊢
    rcases hq with rfl | rfl | rfl | rfl | rfl
    · exact i1 (d + 2)
    · rw [e_203]; simp [s_203, aILoad, aRLoad, aLLoad, aIStore, aRStore, aPush, aBin, aBinL, aShL, aUn, aIf, aIc, aGet, aPut, aIald, aBald, aAald, aIast, aBast, aAast, aAlen, aCopy, aCallV, aCallC, aCallI, aRet, aCat, aMax, aMin, aDiv, aRem, aI2l, aL2i, aNul, aSwS, aSw, aInc, aDup, aDup2, aPop1, aIret, aAret, aVret, aLen, aFk, aFT, Value.category, m_sh, m_p, r_above, i1 (d + 1), show nI 2 = (2 : Int32) from rfl]
    · rw [e_203]; simp [s_203, aILoad, aRLoad, aLLoad, aIStore, aRStore, aPush, aBin, aBinL, aShL, aUn, aIf, aIc, aGet, aPut, aIald, aBald, aAald, aIast, aBast, aAast, aAlen, aCopy, aCallV, aCallC, aCallI, aRet, aCat, aMax, aMin, aDiv, aRem, aI2l, aL2i, aNul, aSwS, aSw, aInc, aDup, aDup2, aPop1, aIret, aAret, aVret, aLen, aFk, aFT, Value.category, m_sh, m_p, r_above, i1 (d + 1), show nI 3 = (3 : Int32) from rfl]
    · have i2 : aCall aMt (d + 4) 203 [.ref 113, .int 2, .int a] (HH I x y) = some (some (.int (a / (m - nI p))), HH (tA 123 113 14 I n 13) x y) := by rw [e_203]; simp [s_203, aILoad, aRLoad, aLLoad, aIStore, aRStore, aPush, aBin, aBinL, aShL, aUn, aIf, aIc, aGet, aPut, aIald, aBald, aAald, aIast, aBast, aAast, aAlen, aCopy, aCallV, aCallC, aCallI, aRet, aCat, aMax, aMin, aDiv, aRem, aI2l, aL2i, aNul, aSwS, aSw, aInc, aDup, aDup2, aPop1, aIret, aAret, aVret, aLen, aFk, aFT, Value.category, m_sh, m_p, r_above, i1 d]
      rw [e_203]; simp [s_203, aILoad, aRLoad, aLLoad, aIStore, aRStore, aPush, aBin, aBinL, aShL, aUn, aIf, aIc, aGet, aPut, aIald, aBald, aAald, aIast, aBast, aAast, aAlen, aCopy, aCallV, aCallC, aCallI, aRet, aCat, aMax, aMin, aDiv, aRem, aI2l, aL2i, aNul, aSwS, aSw, aInc, aDup, aDup2, aPop1, aIret, aAret, aVret, aLen, aFk, aFT, Value.category, m_sh, m_p, r_above, i2, show nI 5 = (5 : Int32) from rfl]
    · rw [e_203]; simp [s_203, aILoad, aRLoad, aLLoad, aIStore, aRStore, aPush, aBin, aBinL, aShL, aUn, aIf, aIc, aGet, aPut, aIald, aBald, aAald, aIast, aBast, aAast, aAlen, aCopy, aCallV, aCallC, aCallI, aRet, aCat, aMax, aMin, aDiv, aRem, aI2l, aL2i, aNul, aSwS, aSw, aInc, aDup, aDup2, aPop1, aIret, aAret, aVret, aLen, aFk, aFT, Value.category, m_sh, m_p, r_above, i1 (d + 1), show nI 6 = (6 : Int32) from rfl]
theorem r_pt1 {n p N : Nat} {m a : Int32} (hp : p < 8) (hN : N ≤ 6) (h : vR I n p N m) (hn : n ≤ 14) : aCall aMt (d + 8) 203 [.ref 113, .int 1, .int a] (HH I x y) = if m - nI p = 0 then some (some (.int 0), HH (aUpd (tA 123 113 14 (tA 123 113 14 I n 21) (n + 1) 13) 113 17 1) x y) else some (some (.int (a / (m - nI p) + vMk N N (nI p) m 1)), HH (tS 123 113 14 I n (21 :: 13 :: lMk N N)) x y) := by
  have h2 := h.ta (b := 21)
  have h3 := h2.ta (b := 13)
  have i1 := r_pt0 (d := d + 4) (I := tA 123 113 14 I n 21) (x := x) (y := y) (n := n + 1) (a := a) hp h2 (by omega)
  rw [e_203]
  by_cases hz : m - nI p = 0
  · rw [if_pos hz] at i1 ⊢
    simp [s_203, aILoad, aRLoad, aLLoad, aIStore, aRStore, aPush, aBin, aBinL, aShL, aUn, aIf, aIc, aGet, aPut, aIald, aBald, aAald, aIast, aBast, aAast, aAlen, aCopy, aCallV, aCallC, aCallI, aRet, aCat, aMax, aMin, aDiv, aRem, aI2l, aL2i, aNul, aSwS, aSw, aInc, aDup, aDup2, aPop1, aIret, aAret, aVret, aLen, aFk, aFT, Value.category, m_sh, m_p, r_above, r_begins h.1 (show n < 30 by omega), i1, aUpd_row, upd_eq]
  · have i2 := r_mk (d := d) (I := tA 123 113 14 (tA 123 113 14 I n 21) (n + 1) 13) (x := x) (y := y) (q := N) (n := n + 1 + 1) (a := 1) hN hp hN h3 (by omega)
    rw [if_neg hz] at i1 ⊢
    simp [s_203, aILoad, aRLoad, aLLoad, aIStore, aRStore, aPush, aBin, aBinL, aShL, aUn, aIf, aIc, aGet, aPut, aIald, aBald, aAald, aIast, aBast, aAast, aAlen, aCopy, aCallV, aCallC, aCallI, aRet, aCat, aMax, aMin, aDiv, aRem, aI2l, aL2i, aNul, aSwS, aSw, aInc, aDup, aDup2, aPop1, aIret, aAret, aVret, aLen, aFk, aFT, Value.category, m_sh, m_p, r_above, r_begins h.1 (show n < 30 by omega), i1, h3.2.2.1, r_kindNow hp h3, i2, tS]
theorem r_pt4 {n p N q : Nat} {m a : Int32} (hq : q = 1 ∨ q = 4) (hp : p < 8) (hN : N ≤ 6) (h : vR I n p N m) (hn : n ≤ 14) : aCall aMt (d + 9) 203 [.ref 113, .int (nI q), .int a] (HH I x y) = if m - nI p = 0 then some (some (.int 0), HH (aUpd (tA 123 113 14 (tA 123 113 14 I n 21) (n + 1) 13) 113 17 1) x y) else some (some (.int (a / (m - nI p) + vMk N N (nI p) m 1)), HH (tS 123 113 14 I n (21 :: 13 :: lMk N N)) x y) := by
  have i1 := fun d => r_pt1 (d := d) (I := I) (x := x) (y := y) (a := a) hp hN h hn
  rcases hq with rfl | rfl
  · exact i1 (d + 1)
  · rw [e_203]
    by_cases hz : m - nI p = 0
    · simp only [hz, if_true] at i1 ⊢
      simp [s_203, aILoad, aRLoad, aLLoad, aIStore, aRStore, aPush, aBin, aBinL, aShL, aUn, aIf, aIc, aGet, aPut, aIald, aBald, aAald, aIast, aBast, aAast, aAlen, aCopy, aCallV, aCallC, aCallI, aRet, aCat, aMax, aMin, aDiv, aRem, aI2l, aL2i, aNul, aSwS, aSw, aInc, aDup, aDup2, aPop1, aIret, aAret, aVret, aLen, aFk, aFT, Value.category, m_sh, m_p, r_above, i1 d, show nI 4 = (4 : Int32) from rfl]
    · simp only [hz, if_false] at i1 ⊢
      simp [s_203, aILoad, aRLoad, aLLoad, aIStore, aRStore, aPush, aBin, aBinL, aShL, aUn, aIf, aIc, aGet, aPut, aIald, aBald, aAald, aIast, aBast, aAast, aAlen, aCopy, aCallV, aCallC, aCallI, aRet, aCat, aMax, aMin, aDiv, aRem, aI2l, aL2i, aNul, aSwS, aSw, aInc, aDup, aDup2, aPop1, aIret, aAret, aVret, aLen, aFk, aFT, Value.category, m_sh, m_p, r_above, i1 d, show nI 4 = (4 : Int32) from rfl]
end VOICE2
