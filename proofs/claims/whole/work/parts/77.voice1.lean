/-! VOICES: the class's and the reference's, value and BODIES -/
/-- one more BODY at the end of a TRACE that stands in row a and has its length in field fl of c -/
def tA (a c fl : Nat) (I : Nat → Nat → Int32) (n : Nat) (b : Int32) : Nat → Nat → Int32 := aUpd (aUpd I a n b) c fl (nI (n + 1))
def tS (a c fl : Nat) : (Nat → Nat → Int32) → Nat → List Int32 → (Nat → Nat → Int32)
  | I, _, [] => I
  | I, n, b :: l => tS a c fl (tA a c fl I n b) (n + 1) l
theorem tA_row {a c fl n r : Nat} {I : Nat → Nat → Int32} {b : Int32} (h1 : r ≠ a) (h2 : r ≠ c) : tA a c fl I n b r = I r := by unfold tA; rw [aUpd_ne h2, aUpd_ne h1]
theorem tA_fld {a c fl n j : Nat} {I : Nat → Nat → Int32} {b : Int32} (h : a ≠ c) (hj : j ≠ fl) : tA a c fl I n b c j = I c j := by unfold tA; rw [aUpd_row, upd_ne hj, aUpd_ne h.symm]
theorem tA_len {a c fl n : Nat} {I : Nat → Nat → Int32} {b : Int32} : tA a c fl I n b c fl = nI (n + 1) := by unfold tA; rw [aUpd_row, upd_eq]
theorem tA_trc {a c fl n j : Nat} {I : Nat → Nat → Int32} {b : Int32} (h : a ≠ c) : tA a c fl I n b a j = if j = n then b else I a j := by unfold tA; rw [aUpd_ne h, aUpd_row]; rfl
theorem tS_row {a c fl r : Nat} (h1 : r ≠ a) (h2 : r ≠ c) : ∀ (l : List Int32) (I : Nat → Nat → Int32) (n : Nat), tS a c fl I n l r = I r
  | [], _, _ => rfl
  | b :: l, I, n => by rw [tS, tS_row h1 h2 l, tA_row h1 h2]
theorem tS_fld {a c fl j : Nat} (h : a ≠ c) (hj : j ≠ fl) : ∀ (l : List Int32) (I : Nat → Nat → Int32) (n : Nat), tS a c fl I n l c j = I c j
  | [], _, _ => rfl
  | b :: l, I, n => by rw [tS, tS_fld h hj l, tA_fld h hj]
theorem tS_len {a c fl : Nat} : ∀ (l : List Int32) (I : Nat → Nat → Int32) (n : Nat), I c fl = nI n → tS a c fl I n l c fl = nI (n + l.length)
  | [], _, _, h => h
  | b :: l, I, n, h => by rw [tS, tS_len l _ (n + 1) tA_len, List.length_cons]; congr 1; omega
theorem tS_lo {a c fl j : Nat} (h : a ≠ c) : ∀ (l : List Int32) (I : Nat → Nat → Int32) (n : Nat), j < n → tS a c fl I n l a j = I a j
  | [], _, _, _ => rfl
  | b :: l, I, n, hj => by rw [tS, tS_lo h l _ (n + 1) (by omega), tA_trc h, if_neg (by omega)]
theorem tS_trc {a c fl : Nat} (h : a ≠ c) : ∀ (l : List Int32) (I : Nat → Nat → Int32) (n j : Nat), j < l.length → tS a c fl I n l a (n + j) = l.getD j 0
  | [], _, _, j, hj => by simp at hj
  | b :: l, I, n, 0, _ => by rw [tS, tS_lo h l _ (n + 1) (by omega), tA_trc h, if_pos (by omega)]; rfl
  | b :: l, I, n, j + 1, hj => by
    rw [tS, show n + (j + 1) = n + 1 + j by omega, tS_trc h l _ (n + 1) j (by simpa using hj)]; rfl
/-- what the VOICES give: sniffs, marks, swears, as a KIND q of one of the KIND K -/
def vSn (q : Nat) (k x : Int32) : Int32 := match q with
  | 1 => x + k - 4
  | 4 => (x + k - 4) * 3
  | 6 => 9
  | _ => x + k
def lSn (q : Nat) : List Int32 := match q with
  | 1 => [20, 10]
  | 4 => [50, 20, 10]
  | 6 => [70]
  | _ => [10]
def vMk (K q : Nat) (k m x : Int32) : Int32 := match q with
  | 2 => 0 - vSn K k x * 2
  | 5 => 0 - vSn K k (x + 1) * 2
  | 6 => vSn K k x * 2 + m
  | _ => vSn K k x * 2
def lMk (K q : Nat) : List Int32 := match q with
  | 2 => 30 :: 11 :: lSn K
  | 5 => 60 :: 30 :: 11 :: lSn K
  | 6 => 71 :: 11 :: lSn K
  | _ => 11 :: lSn K
def vSw (K q : Nat) (k m x : Int32) : Int32 := match q with
  | 3 => vMk K K k m (x / 2) - m
  | 4 => (vMk K K k m x - m) ^^^ k
  | _ => vMk K K k m x - m
def lSw (K q : Nat) : List Int32 := match q with
  | 3 => 40 :: 12 :: lMk K K
  | 4 => 51 :: 12 :: lMk K K
  | _ => 12 :: lMk K K
theorem lSn_le (q : Nat) : (lSn q).length ≤ 3 := by unfold lSn; split <;> simp
theorem lMk_le (K q : Nat) : (lMk K q).length ≤ 6 := by have := lSn_le K; unfold lMk; split <;> simp <;> omega
/-- the class's speaker: so many BODIES, none parted, k, m, KIND -/
def vC (I : Nat → Nat → Int32) (n : Nat) (k m K : Int32) : Prop := I 100 1 = nI n ∧ I 100 3 = 0 ∧ I 100 4 = k ∧ I 100 5 = m ∧ I 100 6 = K
theorem vC.ta {I : Nat → Nat → Int32} {n : Nat} {k m K b : Int32} (h : vC I n k m K) : vC (tA 101 100 1 I n b) (n + 1) k m K :=
  ⟨tA_len, by rw [tA_fld (by decide) (by decide)]; exact h.2.1, by rw [tA_fld (by decide) (by decide)]; exact h.2.2.1, by rw [tA_fld (by decide) (by decide)]; exact h.2.2.2.1, by rw [tA_fld (by decide) (by decide)]; exact h.2.2.2.2⟩
theorem vC.ts {k m K : Int32} : ∀ {l : List Int32} {I : Nat → Nat → Int32} {n : Nat}, vC I n k m K → vC (tS 101 100 1 I n l) (n + l.length) k m K
  | [], _, _, h => h
  | b :: l, I, n, h => by
    have := (h.ta (b := b)).ts (l := l)
    rw [tS, List.length_cons, show n + (l.length + 1) = n + 1 + l.length by omega]; exact this
section VOICE1
variable {d : Nat} {I : Nat → Nat → Int32} {x y : Option Nat}
theorem k_begin {n : Nat} {b : Int32} (h : I 100 1 = nI n) (hn : n < 30) : aCall aMt (d + 1) 61 [.ref 100, .int b] (HH I x y) = some (none, HH (tA 101 100 1 I n b) x y) := by
  have g1 : ¬ (30 : Int32) ≤ nI n := nI_ge (b := 30) hn (by omega)
  have e : aUpd I 101 n b 100 = I 100 := aUpd_ne (by omega)
  rw [e_61]
  simp [s_61, aILoad, aRLoad, aLLoad, aIStore, aRStore, aPush, aBin, aBinL, aShL, aUn, aIf, aIc, aGet, aPut, aIald, aBald, aAald, aIast, aBast, aAast, aAlen, aCopy, aCallV, aCallC, aCallI, aRet, aCat, aMax, aMin, aDiv, aRem, aI2l, aL2i, aNul, aSwS, aSw, aInc, aDup, aDup2, aPop1, aIret, aAret, aVret, aLen, aFk, aFT, Value.category, c_sh, c_q, h, g1, e, toNat_nI (show n < 2 ^ 31 by omega), nI_lt0 (show n < 2 ^ 31 by omega), show ¬ 30 ≤ n by omega, nI_1, tA]
theorem k_brs {H : aH} (e1 : H.1[1000]? = none) (e2 : H.1[1002]? = none) : aCall aMt (d + 2) 60 [.int 0, .int 0] H = some (some (.int 0), H) ∧ aCall aMt (d + 2) 60 [.int 0, .int 1] H = some (some (.int 1), H) ∧ aCall aMt (d + 2) 60 [.int 0, .int 2] H = some (some (.int 0), H) ∧ aCall aMt (d + 2) 60 [.int 0, .int 3] H = some (some (.int 0), H) ∧ aCall aMt (d + 2) 60 [.int 0, .int 4] H = some (some (.int 4), H) ∧ aCall aMt (d + 2) 60 [.int 0, .int 5] H = some (some (.int 0), H) ∧ aCall aMt (d + 2) 60 [.int 0, .int 6] H = some (some (.int 6), H) ∧ aCall aMt (d + 2) 60 [.int 1, .int 0] H = some (some (.int 0), H) ∧ aCall aMt (d + 2) 60 [.int 1, .int 1] H = some (some (.int 0), H) ∧ aCall aMt (d + 2) 60 [.int 1, .int 2] H = some (some (.int 2), H) ∧ aCall aMt (d + 2) 60 [.int 1, .int 3] H = some (some (.int 0), H) ∧ aCall aMt (d + 2) 60 [.int 1, .int 4] H = some (some (.int 0), H) ∧ aCall aMt (d + 2) 60 [.int 1, .int 5] H = some (some (.int 5), H) ∧ aCall aMt (d + 2) 60 [.int 1, .int 6] H = some (some (.int 6), H) ∧ aCall aMt (d + 2) 60 [.int 2, .int 0] H = some (some (.int 0), H) ∧ aCall aMt (d + 2) 60 [.int 2, .int 1] H = some (some (.int 0), H) ∧ aCall aMt (d + 2) 60 [.int 2, .int 2] H = some (some (.int 0), H) ∧ aCall aMt (d + 2) 60 [.int 2, .int 3] H = some (some (.int 3), H) ∧ aCall aMt (d + 2) 60 [.int 2, .int 4] H = some (some (.int 4), H) ∧ aCall aMt (d + 2) 60 [.int 2, .int 5] H = some (some (.int 0), H) ∧ aCall aMt (d + 2) 60 [.int 2, .int 6] H = some (some (.int 0), H) ∧ aCall aMt (d + 2) 60 [.int 3, .int 0] H = some (some (.int 0), H) ∧ aCall aMt (d + 2) 60 [.int 3, .int 1] H = some (some (.int 1), H) ∧ aCall aMt (d + 2) 60 [.int 3, .int 2] H = some (some (.int 0), H) ∧ aCall aMt (d + 2) 60 [.int 3, .int 3] H = some (some (.int 0), H) ∧ aCall aMt (d + 2) 60 [.int 3, .int 4] H = some (some (.int 1), H) ∧ aCall aMt (d + 2) 60 [.int 3, .int 5] H = some (some (.int 0), H) ∧ aCall aMt (d + 2) 60 [.int 3, .int 6] H = some (some (.int 0), H) := by
  refine ⟨?_, ?_, ?_, ?_, ?_, ?_, ?_, ?_, ?_, ?_, ?_, ?_, ?_, ?_, ?_, ?_, ?_, ?_, ?_, ?_, ?_, ?_, ?_, ?_, ?_, ?_, ?_, ?_⟩ <;> (rw [e_60]; simp [s_60, s_60_4, aILoad, aRLoad, aLLoad, aIStore, aRStore, aPush, aBin, aBinL, aShL, aUn, aIf, aIc, aGet, aPut, aIald, aBald, aAald, aIast, aBast, aAast, aAlen, aCopy, aCallV, aCallC, aCallI, aRet, aCat, aMax, aMin, aDiv, aRem, aI2l, aL2i, aNul, aSwS, aSw, aInc, aDup, aDup2, aPop1, aIret, aAret, aVret, aLen, aFk, aFT, Value.category, k_isIn, e1, e2, aSt, aKA, aBO])
theorem k_sn0 {n e q : Nat} {k m K a : Int32} (hq : q = 0 ∨ q = 2 ∨ q = 3 ∨ q = 5) (h : vC I n k m K) (hn : n ≤ 25) (he : e ≤ 12) : aCall aMt (d + 3) 59 [.ref 100, .int 0, .int (nI q), .int a, .int (nI e)] (HH I x y) = some (some (.int (a + k)), HH (tS 101 100 1 I n [10]) x y) := by
  have g20 : ¬ (20 : Int32) ≤ nI e := nI_ge (b := 20) (by omega) (by omega)
  have h2 := h.ta (b := 10)
  rw [e_59]
  rcases hq with rfl | rfl | rfl | rfl <;>
    simp [s_59, aILoad, aRLoad, aLLoad, aIStore, aRStore, aPush, aBin, aBinL, aShL, aUn, aIf, aIc, aGet, aPut, aIald, aBald, aAald, aIast, aBast, aAast, aAlen, aCopy, aCallV, aCallC, aCallI, aRet, aCat, aMax, aMin, aDiv, aRem, aI2l, aL2i, aNul, aSwS, aSw, aInc, aDup, aDup2, aPop1, aIret, aAret, aVret, aLen, aFk, aFT, Value.category, c_sh, c_q, k_brs (H := HH I x y) st_sh.1 st_sh.2.2, h.1, h.2.1, h.2.2.1, h.2.2.2.1, h.2.2.2.2, st_sh, aSt, aBO, aKA, g20, k_begin h.1 (show n < 30 by omega), h2.2.1, h2.2.2.1, h2.2.2.2.1, h2.2.2.2.2, tS, nI_lit0, nI_lit1, show nI 2 = (2 : Int32) from rfl, show nI 3 = (3 : Int32) from rfl, show nI 4 = (4 : Int32) from rfl, show nI 5 = (5 : Int32) from rfl, show nI 6 = (6 : Int32) from rfl, nI_1]
theorem k_sn1 {n e q : Nat} {k m K a : Int32} (hq : q = 1) (h : vC I n k m K) (hn : n ≤ 20) (he : e ≤ 11) : aCall aMt (d + 4) 59 [.ref 100, .int 0, .int (nI q), .int a, .int (nI e)] (HH I x y) = some (some (.int (a + k - 4)), HH (tS 101 100 1 I n [20, 10]) x y) := by
  have g20 : ¬ (20 : Int32) ≤ nI e := nI_ge (b := 20) (by omega) (by omega)
  have h2 := h.ta (b := 20)
  have i1 := k_sn0 (d := d) (I := tA 101 100 1 I n 20) (x := x) (y := y) (q := 0) (n := n + 1) (e := e + 1) (a := a) (by omega) h2 (by omega) (by omega)
  rw [nI_lit0] at i1
  rw [e_59]
  rcases hq with rfl <;>
    simp [s_59, aILoad, aRLoad, aLLoad, aIStore, aRStore, aPush, aBin, aBinL, aShL, aUn, aIf, aIc, aGet, aPut, aIald, aBald, aAald, aIast, aBast, aAast, aAlen, aCopy, aCallV, aCallC, aCallI, aRet, aCat, aMax, aMin, aDiv, aRem, aI2l, aL2i, aNul, aSwS, aSw, aInc, aDup, aDup2, aPop1, aIret, aAret, aVret, aLen, aFk, aFT, Value.category, c_sh, c_q, k_brs (H := HH I x y) st_sh.1 st_sh.2.2, h.1, h.2.1, h.2.2.1, h.2.2.2.1, h.2.2.2.2, st_sh, aSt, aBO, aKA, g20, k_begin h.1 (show n < 30 by omega), h2.2.1, h2.2.2.1, h2.2.2.2.1, h2.2.2.2.2, tS, nI_lit0, nI_lit1, show nI 2 = (2 : Int32) from rfl, show nI 3 = (3 : Int32) from rfl, show nI 4 = (4 : Int32) from rfl, show nI 5 = (5 : Int32) from rfl, show nI 6 = (6 : Int32) from rfl, nI_1, i1]
theorem k_sn4 {n e q : Nat} {k m K a : Int32} (hq : q = 4) (h : vC I n k m K) (hn : n ≤ 19) (he : e ≤ 10) : aCall aMt (d + 5) 59 [.ref 100, .int 0, .int (nI q), .int a, .int (nI e)] (HH I x y) = some (some (.int ((a + k - 4) * 3)), HH (tS 101 100 1 I n [50, 20, 10]) x y) := by
  have g20 : ¬ (20 : Int32) ≤ nI e := nI_ge (b := 20) (by omega) (by omega)
  have h2 := h.ta (b := 50)
  have i1 := k_sn1 (d := d) (I := tA 101 100 1 I n 50) (x := x) (y := y) (q := 1) (n := n + 1) (e := e + 1) (a := a) (by omega) h2 (by omega) (by omega)
  rw [nI_lit1] at i1
  rw [e_59]
  rcases hq with rfl <;>
    simp [s_59, aILoad, aRLoad, aLLoad, aIStore, aRStore, aPush, aBin, aBinL, aShL, aUn, aIf, aIc, aGet, aPut, aIald, aBald, aAald, aIast, aBast, aAast, aAlen, aCopy, aCallV, aCallC, aCallI, aRet, aCat, aMax, aMin, aDiv, aRem, aI2l, aL2i, aNul, aSwS, aSw, aInc, aDup, aDup2, aPop1, aIret, aAret, aVret, aLen, aFk, aFT, Value.category, c_sh, c_q, k_brs (H := HH I x y) st_sh.1 st_sh.2.2, h.1, h.2.1, h.2.2.1, h.2.2.2.1, h.2.2.2.2, st_sh, aSt, aBO, aKA, g20, k_begin h.1 (show n < 30 by omega), h2.2.1, h2.2.2.1, h2.2.2.2.1, h2.2.2.2.2, tS, nI_lit0, nI_lit1, show nI 2 = (2 : Int32) from rfl, show nI 3 = (3 : Int32) from rfl, show nI 4 = (4 : Int32) from rfl, show nI 5 = (5 : Int32) from rfl, show nI 6 = (6 : Int32) from rfl, nI_1, i1]
theorem k_sn6 {n e q : Nat} {k m K a : Int32} (hq : q = 6) (h : vC I n k m K) (hn : n ≤ 20) (he : e ≤ 12) : aCall aMt (d + 3) 59 [.ref 100, .int 0, .int (nI q), .int a, .int (nI e)] (HH I x y) = some (some (.int (9)), HH (tS 101 100 1 I n [70]) x y) := by
  have g20 : ¬ (20 : Int32) ≤ nI e := nI_ge (b := 20) (by omega) (by omega)
  have h2 := h.ta (b := 70)
  rw [e_59]
  rcases hq with rfl <;>
    simp [s_59, aILoad, aRLoad, aLLoad, aIStore, aRStore, aPush, aBin, aBinL, aShL, aUn, aIf, aIc, aGet, aPut, aIald, aBald, aAald, aIast, aBast, aAast, aAlen, aCopy, aCallV, aCallC, aCallI, aRet, aCat, aMax, aMin, aDiv, aRem, aI2l, aL2i, aNul, aSwS, aSw, aInc, aDup, aDup2, aPop1, aIret, aAret, aVret, aLen, aFk, aFT, Value.category, c_sh, c_q, k_brs (H := HH I x y) st_sh.1 st_sh.2.2, h.1, h.2.1, h.2.2.1, h.2.2.2.1, h.2.2.2.2, st_sh, aSt, aBO, aKA, g20, k_begin h.1 (show n < 30 by omega), h2.2.1, h2.2.2.1, h2.2.2.2.1, h2.2.2.2.2, tS, nI_lit0, nI_lit1, show nI 2 = (2 : Int32) from rfl, show nI 3 = (3 : Int32) from rfl, show nI 4 = (4 : Int32) from rfl, show nI 5 = (5 : Int32) from rfl, show nI 6 = (6 : Int32) from rfl, nI_1]
theorem k_sn {n e q : Nat} {k m K a : Int32} (hq : q ≤ 6) (h : vC I n k m K) (hn : n ≤ 19) (he : e ≤ 10) : aCall aMt (d + 5) 59 [.ref 100, .int 0, .int (nI q), .int a, .int (nI e)] (HH I x y) = some (some (.int (vSn q k a)), HH (tS 101 100 1 I n (lSn q)) x y) := by
  have hq' : q = 0 ∨ q = 1 ∨ q = 2 ∨ q = 3 ∨ q = 4 ∨ q = 5 ∨ q = 6 := by omega
  rcases hq' with rfl | rfl | rfl | rfl | rfl | rfl | rfl
  · exact k_sn0 (d := d + 2) (by omega) h (by omega) (by omega)
  · exact k_sn1 (d := d + 1) (by omega) h (by omega) (by omega)
  · exact k_sn0 (d := d + 2) (by omega) h (by omega) (by omega)
  · exact k_sn0 (d := d + 2) (by omega) h (by omega) (by omega)
  · exact k_sn4 (d := d) (by omega) h (by omega) (by omega)
  · exact k_sn0 (d := d + 2) (by omega) h (by omega) (by omega)
  · exact k_sn6 (d := d + 2) (by omega) h (by omega) (by omega)
theorem k_mk0 {n e q N : Nat} {k m a : Int32} (hq : q = 0 ∨ q = 1 ∨ q = 3 ∨ q = 4) (hN : N ≤ 6) (h : vC I n k m (nI N)) (hn : n ≤ 18) (he : e ≤ 9) : aCall aMt (d + 6) 59 [.ref 100, .int 1, .int (nI q), .int a, .int (nI e)] (HH I x y) = some (some (.int (vSn N k a * 2)), HH (tS 101 100 1 I n (11 :: lSn N)) x y) := by
  have g20 : ¬ (20 : Int32) ≤ nI e := nI_ge (b := 20) (by omega) (by omega)
  have h2 := h.ta (b := 11)
  have i1 := k_sn (d := d) (I := tA 101 100 1 I n 11) (x := x) (y := y) (q := N) (n := n + 1) (e := e + 1) (a := a) hN h2 (by omega) (by omega)
  rw [e_59]
  rcases hq with rfl | rfl | rfl | rfl <;>
    simp [s_59, aILoad, aRLoad, aLLoad, aIStore, aRStore, aPush, aBin, aBinL, aShL, aUn, aIf, aIc, aGet, aPut, aIald, aBald, aAald, aIast, aBast, aAast, aAlen, aCopy, aCallV, aCallC, aCallI, aRet, aCat, aMax, aMin, aDiv, aRem, aI2l, aL2i, aNul, aSwS, aSw, aInc, aDup, aDup2, aPop1, aIret, aAret, aVret, aLen, aFk, aFT, Value.category, c_sh, c_q, k_brs (H := HH I x y) st_sh.1 st_sh.2.2, h.1, h.2.1, h.2.2.1, h.2.2.2.1, h.2.2.2.2, st_sh, aSt, aBO, aKA, g20, k_begin h.1 (show n < 30 by omega), h2.2.1, h2.2.2.1, h2.2.2.2.1, h2.2.2.2.2, tS, nI_lit0, nI_lit1, show nI 2 = (2 : Int32) from rfl, show nI 3 = (3 : Int32) from rfl, show nI 4 = (4 : Int32) from rfl, show nI 5 = (5 : Int32) from rfl, show nI 6 = (6 : Int32) from rfl, nI_1, i1]
theorem k_mk2 {n e q N : Nat} {k m a : Int32} (hq : q = 2) (hN : N ≤ 6) (h : vC I n k m (nI N)) (hn : n ≤ 17) (he : e ≤ 8) : aCall aMt (d + 7) 59 [.ref 100, .int 1, .int (nI q), .int a, .int (nI e)] (HH I x y) = some (some (.int (0 - vSn N k a * 2)), HH (tS 101 100 1 I n (30 :: 11 :: lSn N)) x y) := by
  have g20 : ¬ (20 : Int32) ≤ nI e := nI_ge (b := 20) (by omega) (by omega)
  have h2 := h.ta (b := 30)
  have i1 := k_mk0 (d := d) (I := tA 101 100 1 I n 30) (x := x) (y := y) (q := 0) (n := n + 1) (e := e + 1) (a := a) (by omega) hN h2 (by omega) (by omega)
  rw [nI_lit0, tS] at i1
  rw [e_59]
  rcases hq with rfl <;>
    simp [s_59, aILoad, aRLoad, aLLoad, aIStore, aRStore, aPush, aBin, aBinL, aShL, aUn, aIf, aIc, aGet, aPut, aIald, aBald, aAald, aIast, aBast, aAast, aAlen, aCopy, aCallV, aCallC, aCallI, aRet, aCat, aMax, aMin, aDiv, aRem, aI2l, aL2i, aNul, aSwS, aSw, aInc, aDup, aDup2, aPop1, aIret, aAret, aVret, aLen, aFk, aFT, Value.category, c_sh, c_q, k_brs (H := HH I x y) st_sh.1 st_sh.2.2, h.1, h.2.1, h.2.2.1, h.2.2.2.1, h.2.2.2.2, st_sh, aSt, aBO, aKA, g20, k_begin h.1 (show n < 30 by omega), h2.2.1, h2.2.2.1, h2.2.2.2.1, h2.2.2.2.2, tS, nI_lit0, nI_lit1, show nI 2 = (2 : Int32) from rfl, show nI 3 = (3 : Int32) from rfl, show nI 4 = (4 : Int32) from rfl, show nI 5 = (5 : Int32) from rfl, show nI 6 = (6 : Int32) from rfl, nI_1, i1]
theorem k_mk5 {n e q N : Nat} {k m a : Int32} (hq : q = 5) (hN : N ≤ 6) (h : vC I n k m (nI N)) (hn : n ≤ 16) (he : e ≤ 7) : aCall aMt (d + 8) 59 [.ref 100, .int 1, .int (nI q), .int a, .int (nI e)] (HH I x y) = some (some (.int (0 - vSn N k (a + 1) * 2)), HH (tS 101 100 1 I n (60 :: 30 :: 11 :: lSn N)) x y) := by
  have g20 : ¬ (20 : Int32) ≤ nI e := nI_ge (b := 20) (by omega) (by omega)
  have h2 := h.ta (b := 60)
  have i1 := k_mk2 (d := d) (I := tA 101 100 1 I n 60) (x := x) (y := y) (q := 2) (n := n + 1) (e := e + 1) (a := a + 1) rfl hN h2 (by omega) (by omega)
  rw [show nI 2 = (2 : Int32) from rfl, tS, tS] at i1
  rw [e_59]
  rcases hq with rfl <;>
    simp [s_59, aILoad, aRLoad, aLLoad, aIStore, aRStore, aPush, aBin, aBinL, aShL, aUn, aIf, aIc, aGet, aPut, aIald, aBald, aAald, aIast, aBast, aAast, aAlen, aCopy, aCallV, aCallC, aCallI, aRet, aCat, aMax, aMin, aDiv, aRem, aI2l, aL2i, aNul, aSwS, aSw, aInc, aDup, aDup2, aPop1, aIret, aAret, aVret, aLen, aFk, aFT, Value.category, c_sh, c_q, k_brs (H := HH I x y) st_sh.1 st_sh.2.2, h.1, h.2.1, h.2.2.1, h.2.2.2.1, h.2.2.2.2, st_sh, aSt, aBO, aKA, g20, k_begin h.1 (show n < 30 by omega), h2.2.1, h2.2.2.1, h2.2.2.2.1, h2.2.2.2.2, tS, nI_lit0, nI_lit1, show nI 2 = (2 : Int32) from rfl, show nI 3 = (3 : Int32) from rfl, show nI 4 = (4 : Int32) from rfl, show nI 5 = (5 : Int32) from rfl, show nI 6 = (6 : Int32) from rfl, nI_1, i1]
theorem k_mk6 {n e q N : Nat} {k m a : Int32} (hq : q = 6) (hN : N ≤ 6) (h : vC I n k m (nI N)) (hn : n ≤ 17) (he : e ≤ 8) : aCall aMt (d + 7) 59 [.ref 100, .int 1, .int (nI q), .int a, .int (nI e)] (HH I x y) = some (some (.int (vSn N k a * 2 + m)), HH (tS 101 100 1 I n (71 :: 11 :: lSn N)) x y) := by
  have g20 : ¬ (20 : Int32) ≤ nI e := nI_ge (b := 20) (by omega) (by omega)
  have h2 := h.ta (b := 71)
  have i1 := k_mk0 (d := d) (I := tA 101 100 1 I n 71) (x := x) (y := y) (q := 0) (n := n + 1) (e := e + 1) (a := a) (by omega) hN h2 (by omega) (by omega)
  rw [nI_lit0, tS] at i1
  have h3 := (h2.ta (b := 11)).ts (l := lSn N)
  rw [e_59]
  rcases hq with rfl <;>
    simp [s_59, aILoad, aRLoad, aLLoad, aIStore, aRStore, aPush, aBin, aBinL, aShL, aUn, aIf, aIc, aGet, aPut, aIald, aBald, aAald, aIast, aBast, aAast, aAlen, aCopy, aCallV, aCallC, aCallI, aRet, aCat, aMax, aMin, aDiv, aRem, aI2l, aL2i, aNul, aSwS, aSw, aInc, aDup, aDup2, aPop1, aIret, aAret, aVret, aLen, aFk, aFT, Value.category, c_sh, c_q, k_brs (H := HH I x y) st_sh.1 st_sh.2.2, h.1, h.2.1, h.2.2.1, h.2.2.2.1, h.2.2.2.2, st_sh, aSt, aBO, aKA, g20, k_begin h.1 (show n < 30 by omega), h2.2.1, h2.2.2.1, h2.2.2.2.1, h2.2.2.2.2, tS, nI_lit0, nI_lit1, show nI 2 = (2 : Int32) from rfl, show nI 3 = (3 : Int32) from rfl, show nI 4 = (4 : Int32) from rfl, show nI 5 = (5 : Int32) from rfl, show nI 6 = (6 : Int32) from rfl, nI_1, i1, h3.2.2.2.1]
theorem k_mk {n e q N : Nat} {k m a : Int32} (hq : q ≤ 6) (hN : N ≤ 6) (h : vC I n k m (nI N)) (hn : n ≤ 16) (he : e ≤ 7) : aCall aMt (d + 8) 59 [.ref 100, .int 1, .int (nI q), .int a, .int (nI e)] (HH I x y) = some (some (.int (vMk N q k m a)), HH (tS 101 100 1 I n (lMk N q)) x y) := by
  have hq' : q = 0 ∨ q = 1 ∨ q = 2 ∨ q = 3 ∨ q = 4 ∨ q = 5 ∨ q = 6 := by omega
  rcases hq' with rfl | rfl | rfl | rfl | rfl | rfl | rfl
  · exact k_mk0 (d := d + 2) (by omega) hN h (by omega) (by omega)
  · exact k_mk0 (d := d + 2) (by omega) hN h (by omega) (by omega)
  · exact k_mk2 (d := d + 1) (by omega) hN h (by omega) (by omega)
  · exact k_mk0 (d := d + 2) (by omega) hN h (by omega) (by omega)
  · exact k_mk0 (d := d + 2) (by omega) hN h (by omega) (by omega)
  · exact k_mk5 (d := d) (by omega) hN h (by omega) (by omega)
  · exact k_mk6 (d := d + 1) (by omega) hN h (by omega) (by omega)
theorem k_sw0 {n e q N : Nat} {k m a : Int32} (hq : q = 0 ∨ q = 1 ∨ q = 2 ∨ q = 5 ∨ q = 6) (hN : N ≤ 6) (h : vC I n k m (nI N)) (hn : n ≤ 15) (he : e ≤ 6) : aCall aMt (d + 9) 59 [.ref 100, .int 2, .int (nI q), .int a, .int (nI e)] (HH I x y) = some (some (.int (vMk N N k m a - m)), HH (tS 101 100 1 I n (12 :: lMk N N)) x y) := by
  have g20 : ¬ (20 : Int32) ≤ nI e := nI_ge (b := 20) (by omega) (by omega)
  have h2 := h.ta (b := 12)
  have i1 := k_mk (d := d) (I := tA 101 100 1 I n 12) (x := x) (y := y) (q := N) (n := n + 1) (e := e + 1) (a := a) hN hN h2 (by omega) (by omega)
  have h3 := h2.ts (l := lMk N N)
  rw [e_59]
  rcases hq with rfl | rfl | rfl | rfl | rfl <;>
    simp [s_59, aILoad, aRLoad, aLLoad, aIStore, aRStore, aPush, aBin, aBinL, aShL, aUn, aIf, aIc, aGet, aPut, aIald, aBald, aAald, aIast, aBast, aAast, aAlen, aCopy, aCallV, aCallC, aCallI, aRet, aCat, aMax, aMin, aDiv, aRem, aI2l, aL2i, aNul, aSwS, aSw, aInc, aDup, aDup2, aPop1, aIret, aAret, aVret, aLen, aFk, aFT, Value.category, c_sh, c_q, k_brs (H := HH I x y) st_sh.1 st_sh.2.2, h.1, h.2.1, h.2.2.1, h.2.2.2.1, h.2.2.2.2, st_sh, aSt, aBO, aKA, g20, k_begin h.1 (show n < 30 by omega), h2.2.1, h2.2.2.1, h2.2.2.2.1, h2.2.2.2.2, tS, nI_lit0, nI_lit1, show nI 2 = (2 : Int32) from rfl, show nI 3 = (3 : Int32) from rfl, show nI 4 = (4 : Int32) from rfl, show nI 5 = (5 : Int32) from rfl, show nI 6 = (6 : Int32) from rfl, nI_1, i1, h3.2.2.2.1]
theorem k_sw3 {n e q N : Nat} {k m a : Int32} (hq : q = 3) (hN : N ≤ 6) (h : vC I n k m (nI N)) (hn : n ≤ 14) (he : e ≤ 5) : aCall aMt (d + 10) 59 [.ref 100, .int 2, .int (nI q), .int a, .int (nI e)] (HH I x y) = some (some (.int (vMk N N k m (a / 2) - m)), HH (tS 101 100 1 I n (40 :: 12 :: lMk N N)) x y) := by
  have g20 : ¬ (20 : Int32) ≤ nI e := nI_ge (b := 20) (by omega) (by omega)
  have h2 := h.ta (b := 40)
  have i1 := k_sw0 (d := d) (I := tA 101 100 1 I n 40) (x := x) (y := y) (q := 0) (n := n + 1) (e := e + 1) (a := a / 2) (by omega) hN h2 (by omega) (by omega)
  rw [nI_lit0, tS] at i1
  rw [e_59]
  rcases hq with rfl <;>
    simp [s_59, aILoad, aRLoad, aLLoad, aIStore, aRStore, aPush, aBin, aBinL, aShL, aUn, aIf, aIc, aGet, aPut, aIald, aBald, aAald, aIast, aBast, aAast, aAlen, aCopy, aCallV, aCallC, aCallI, aRet, aCat, aMax, aMin, aDiv, aRem, aI2l, aL2i, aNul, aSwS, aSw, aInc, aDup, aDup2, aPop1, aIret, aAret, aVret, aLen, aFk, aFT, Value.category, c_sh, c_q, k_brs (H := HH I x y) st_sh.1 st_sh.2.2, h.1, h.2.1, h.2.2.1, h.2.2.2.1, h.2.2.2.2, st_sh, aSt, aBO, aKA, g20, k_begin h.1 (show n < 30 by omega), h2.2.1, h2.2.2.1, h2.2.2.2.1, h2.2.2.2.2, tS, nI_lit0, nI_lit1, show nI 2 = (2 : Int32) from rfl, show nI 3 = (3 : Int32) from rfl, show nI 4 = (4 : Int32) from rfl, show nI 5 = (5 : Int32) from rfl, show nI 6 = (6 : Int32) from rfl, nI_1, i1]
theorem k_sw4 {n e q N : Nat} {k m a : Int32} (hq : q = 4) (hN : N ≤ 6) (h : vC I n k m (nI N)) (hn : n ≤ 14) (he : e ≤ 5) : aCall aMt (d + 10) 59 [.ref 100, .int 2, .int (nI q), .int a, .int (nI e)] (HH I x y) = some (some (.int ((vMk N N k m a - m) ^^^ k)), HH (tS 101 100 1 I n (51 :: 12 :: lMk N N)) x y) := by
  have g20 : ¬ (20 : Int32) ≤ nI e := nI_ge (b := 20) (by omega) (by omega)
  have h2 := h.ta (b := 51)
  have i1 := k_sw0 (d := d) (I := tA 101 100 1 I n 51) (x := x) (y := y) (q := 1) (n := n + 1) (e := e + 1) (a := a) (by omega) hN h2 (by omega) (by omega)
  rw [nI_lit1, tS] at i1
  have h3 := (h2.ta (b := 12)).ts (l := lMk N N)
  rw [e_59]
  rcases hq with rfl <;>
    simp [s_59, aILoad, aRLoad, aLLoad, aIStore, aRStore, aPush, aBin, aBinL, aShL, aUn, aIf, aIc, aGet, aPut, aIald, aBald, aAald, aIast, aBast, aAast, aAlen, aCopy, aCallV, aCallC, aCallI, aRet, aCat, aMax, aMin, aDiv, aRem, aI2l, aL2i, aNul, aSwS, aSw, aInc, aDup, aDup2, aPop1, aIret, aAret, aVret, aLen, aFk, aFT, Value.category, c_sh, c_q, k_brs (H := HH I x y) st_sh.1 st_sh.2.2, h.1, h.2.1, h.2.2.1, h.2.2.2.1, h.2.2.2.2, st_sh, aSt, aBO, aKA, g20, k_begin h.1 (show n < 30 by omega), h2.2.1, h2.2.2.1, h2.2.2.2.1, h2.2.2.2.2, tS, nI_lit0, nI_lit1, show nI 2 = (2 : Int32) from rfl, show nI 3 = (3 : Int32) from rfl, show nI 4 = (4 : Int32) from rfl, show nI 5 = (5 : Int32) from rfl, show nI 6 = (6 : Int32) from rfl, nI_1, i1, h3.2.2.1]
theorem k_sw {n e q N : Nat} {k m a : Int32} (hq : q ≤ 6) (hN : N ≤ 6) (h : vC I n k m (nI N)) (hn : n ≤ 14) (he : e ≤ 5) : aCall aMt (d + 10) 59 [.ref 100, .int 2, .int (nI q), .int a, .int (nI e)] (HH I x y) = some (some (.int (vSw N q k m a)), HH (tS 101 100 1 I n (lSw N q)) x y) := by
  have hq' : q = 0 ∨ q = 1 ∨ q = 2 ∨ q = 3 ∨ q = 4 ∨ q = 5 ∨ q = 6 := by omega
  rcases hq' with rfl | rfl | rfl | rfl | rfl | rfl | rfl
  · exact k_sw0 (d := d + 1) (by omega) hN h (by omega) (by omega)
  · exact k_sw0 (d := d + 1) (by omega) hN h (by omega) (by omega)
  · exact k_sw0 (d := d + 1) (by omega) hN h (by omega) (by omega)
  · exact k_sw3 (d := d) (by omega) hN h (by omega) (by omega)
  · exact k_sw4 (d := d) (by omega) hN h (by omega) (by omega)
  · exact k_sw0 (d := d + 1) (by omega) hN h (by omega) (by omega)
  · exact k_sw0 (d := d + 1) (by omega) hN h (by omega) (by omega)
end VOICE1
