/-! the calls in pairs: seed, count, told, body, tell -/
section PAIR7
variable {d : Nat} {I : Nat → Nat → Int32} {x y : Option Nat}
theorem pair_seed (v : Int32) : Pair 82 181 [.int v] := by
  intro d I x y h
  obtain ⟨f, P, T, h1, hf, hA⟩ := h.f
  have e114 : aUpd I f 14 v 114 = I 114 := aUpd_ne (by omega)
  have hr := r_change (d := d + 18) (I := aUpd I f 14 v) (x := x) (y := y) (k := 4) (v := v) (by omega)
  rw [show nI 4 = (4 : Int32) from rfl, e114] at hr
  refine Pair.now (v := I 114 4) (I1 := aUpd I f 14 v) (I2 := aUpd (aUpd I f 14 v) 114 4 v) (P := P) (T := T) h h1 ?_ ?_ (KG.rf.upd (by omega) (by omega)) (RG.rf.upd) ?_
  · rw [e_82]; simp [s_82, aILoad, aRLoad, aLLoad, aIStore, aRStore, aPush, aBin, aBinL, aShL, aUn, aIf, aIc, aGet, aPut, aIald, aBald, aAald, aIast, aBast, aAast, aAlen, aCopy, aCallV, aCallC, aCallI, aRet, aCat, aMax, aMin, aDiv, aRem, aI2l, aL2i, aNul, aSwS, aSw, aInc, aDup, aDup2, aPop1, aIret, aAret, aVret, aLen, aFk, aFT, Value.category, c_sh, c_f h1, f_sh hf, hA.1.fi]
  · rw [e_181]; simp [s_181, aILoad, aRLoad, aLLoad, aIStore, aRStore, aPush, aBin, aBinL, aShL, aUn, aIf, aIc, aGet, aPut, aIald, aBald, aAald, aIast, aBast, aAast, aAlen, aCopy, aCallV, aCallC, aCallI, aRet, aCat, aMax, aMin, aDiv, aRem, aI2l, aL2i, aNul, aSwS, aSw, aInc, aDup, aDup2, aPop1, aIret, aAret, aVret, aLen, aFk, aFT, Value.category, m_sh, m_p, hr]
  · rw [aUpd_row, e114]; exact hA.setS (k := 4) (by omega) (fun _ _ => by omega)
theorem pair_count (w : Int32) : Pair 103 217 [.int w] := by
  intro d I x y h
  obtain ⟨f, P, T, h1, hf, hA⟩ := h.f
  have hP := hA.1.1
  have e7 := hA.1.fi.2.2.1
  have e8 := hA.1.fi.2.2.2.1
  obtain ⟨⟨L, l1, l2, l3, _⟩, ⟨W, w1, w2, w3, _⟩, _⟩ := hA.2.1
  obtain ⟨n, n1, n2, n3, _⟩ := h.2.2.2.2.2
  by_cases c0 : w = 0
  · subst c0
    refine Pair.id (v := nI P) h ?_ ?_
    · rw [e_103]; simp [s_103, aILoad, aRLoad, aLLoad, aIStore, aRStore, aPush, aBin, aBinL, aShL, aUn, aIf, aIc, aGet, aPut, aIald, aBald, aAald, aIast, aBast, aAast, aAlen, aCopy, aCallV, aCallC, aCallI, aRet, aCat, aMax, aMin, aDiv, aRem, aI2l, aL2i, aNul, aSwS, aSw, aInc, aDup, aDup2, aPop1, aIret, aAret, aVret, aLen, aFk, aFT, Value.category, c_sh, c_q, c_f h1, f_sh hf, hA.1.fi]
    · rw [e_217]; simp [s_217, aILoad, aRLoad, aLLoad, aIStore, aRStore, aPush, aBin, aBinL, aShL, aUn, aIf, aIc, aGet, aPut, aIald, aBald, aAald, aIast, aBast, aAast, aAlen, aCopy, aCallV, aCallC, aCallI, aRet, aCat, aMax, aMin, aDiv, aRem, aI2l, aL2i, aNul, aSwS, aSw, aInc, aDup, aDup2, aPop1, aIret, aAret, aVret, aLen, aFk, aFT, Value.category, m_sh, m_p, e7]
  by_cases c1 : w = 1
  · subst c1
    refine Pair.id (v := nI T) h ?_ ?_
    · rw [e_103]; simp [s_103, aILoad, aRLoad, aLLoad, aIStore, aRStore, aPush, aBin, aBinL, aShL, aUn, aIf, aIc, aGet, aPut, aIald, aBald, aAald, aIast, aBast, aAast, aAlen, aCopy, aCallV, aCallC, aCallI, aRet, aCat, aMax, aMin, aDiv, aRem, aI2l, aL2i, aNul, aSwS, aSw, aInc, aDup, aDup2, aPop1, aIret, aAret, aVret, aLen, aFk, aFT, Value.category, c_sh, c_q, c_f h1, f_sh hf, hA.1.fi]
    · rw [e_217]; simp [s_217, aILoad, aRLoad, aLLoad, aIStore, aRStore, aPush, aBin, aBinL, aShL, aUn, aIf, aIc, aGet, aPut, aIald, aBald, aAald, aIast, aBast, aAast, aAlen, aCopy, aCallV, aCallC, aCallI, aRet, aCat, aMax, aMin, aDiv, aRem, aI2l, aL2i, aNul, aSwS, aSw, aInc, aDup, aDup2, aPop1, aIret, aAret, aVret, aLen, aFk, aFT, Value.category, m_sh, m_p, e8]
  by_cases c2 : w = 2
  · subst c2
    have ki := k_inside (d := d + 18) (x := x) (y := y) hf hA.1 hA.2.2.th
    have rh := r_howMany (d := d + 16) (x := x) (y := y) (I := I) hP.2 e8
    refine Pair.id (v := nI (cnt (sTh (I 114)) T)) h ?_ ?_
    · rw [e_103]; simp [s_103, aILoad, aRLoad, aLLoad, aIStore, aRStore, aPush, aBin, aBinL, aShL, aUn, aIf, aIc, aGet, aPut, aIald, aBald, aAald, aIast, aBast, aAast, aAlen, aCopy, aCallV, aCallC, aCallI, aRet, aCat, aMax, aMin, aDiv, aRem, aI2l, aL2i, aNul, aSwS, aSw, aInc, aDup, aDup2, aPop1, aIret, aAret, aVret, aLen, aFk, aFT, Value.category, c_sh, c_q, c_f h1, f_sh hf, ki]
    · rw [e_217]; simp [s_217, aILoad, aRLoad, aLLoad, aIStore, aRStore, aPush, aBin, aBinL, aShL, aUn, aIf, aIc, aGet, aPut, aIald, aBald, aAald, aIast, aBast, aAast, aAlen, aCopy, aCallV, aCallC, aCallI, aRet, aCat, aMax, aMin, aDiv, aRem, aI2l, aL2i, aNul, aSwS, aSw, aInc, aDup, aDup2, aPop1, aIret, aAret, aVret, aLen, aFk, aFT, Value.category, m_sh, m_p, rh]
  by_cases c3 : w = 3
  · subst c3
    refine Pair.id (v := I 114 0) h ?_ ?_
    · rw [e_103]; simp [s_103, aILoad, aRLoad, aLLoad, aIStore, aRStore, aPush, aBin, aBinL, aShL, aUn, aIf, aIc, aGet, aPut, aIald, aBald, aAald, aIast, aBast, aAast, aAlen, aCopy, aCallV, aCallC, aCallI, aRet, aCat, aMax, aMin, aDiv, aRem, aI2l, aL2i, aNul, aSwS, aSw, aInc, aDup, aDup2, aPop1, aIret, aAret, aVret, aLen, aFk, aFT, Value.category, c_sh, c_q, c_f h1, f_sh hf, hA.1.fi]
    · rw [e_217]; simp [s_217, aILoad, aRLoad, aLLoad, aIStore, aRStore, aPush, aBin, aBinL, aShL, aUn, aIf, aIc, aGet, aPut, aIald, aBald, aAald, aIast, aBast, aAast, aAlen, aCopy, aCallV, aCallC, aCallI, aRet, aCat, aMax, aMin, aDiv, aRem, aI2l, aL2i, aNul, aSwS, aSw, aInc, aDup, aDup2, aPop1, aIret, aAret, aVret, aLen, aFk, aFT, Value.category, m_sh, m_p]
  by_cases c4 : w = 4
  · subst c4
    refine Pair.id (v := I 114 1) h ?_ ?_
    · rw [e_103]; simp [s_103, aILoad, aRLoad, aLLoad, aIStore, aRStore, aPush, aBin, aBinL, aShL, aUn, aIf, aIc, aGet, aPut, aIald, aBald, aAald, aIast, aBast, aAast, aAlen, aCopy, aCallV, aCallC, aCallI, aRet, aCat, aMax, aMin, aDiv, aRem, aI2l, aL2i, aNul, aSwS, aSw, aInc, aDup, aDup2, aPop1, aIret, aAret, aVret, aLen, aFk, aFT, Value.category, c_sh, c_q, c_f h1, f_sh hf, hA.1.fi]
    · rw [e_217]; simp [s_217, aILoad, aRLoad, aLLoad, aIStore, aRStore, aPush, aBin, aBinL, aShL, aUn, aIf, aIc, aGet, aPut, aIald, aBald, aAald, aIast, aBast, aAast, aAlen, aCopy, aCallV, aCallC, aCallI, aRet, aCat, aMax, aMin, aDiv, aRem, aI2l, aL2i, aNul, aSwS, aSw, aInc, aDup, aDup2, aPop1, aIret, aAret, aVret, aLen, aFk, aFT, Value.category, m_sh, m_p]
  by_cases c5 : w = 5
  · subst c5
    refine Pair.id (v := I 114 2) h ?_ ?_
    · rw [e_103]; simp [s_103, aILoad, aRLoad, aLLoad, aIStore, aRStore, aPush, aBin, aBinL, aShL, aUn, aIf, aIc, aGet, aPut, aIald, aBald, aAald, aIast, aBast, aAast, aAlen, aCopy, aCallV, aCallC, aCallI, aRet, aCat, aMax, aMin, aDiv, aRem, aI2l, aL2i, aNul, aSwS, aSw, aInc, aDup, aDup2, aPop1, aIret, aAret, aVret, aLen, aFk, aFT, Value.category, c_sh, c_q, c_f h1, f_sh hf, hA.1.fi]
    · rw [e_217]; simp [s_217, aILoad, aRLoad, aLLoad, aIStore, aRStore, aPush, aBin, aBinL, aShL, aUn, aIf, aIc, aGet, aPut, aIald, aBald, aAald, aIast, aBast, aAast, aAlen, aCopy, aCallV, aCallC, aCallI, aRet, aCat, aMax, aMin, aDiv, aRem, aI2l, aL2i, aNul, aSwS, aSw, aInc, aDup, aDup2, aPop1, aIret, aAret, aVret, aLen, aFk, aFT, Value.category, m_sh, m_p]
  by_cases c6 : w = 6
  · subst c6
    refine Pair.id (v := I 114 3) h ?_ ?_
    · rw [e_103]; simp [s_103, aILoad, aRLoad, aLLoad, aIStore, aRStore, aPush, aBin, aBinL, aShL, aUn, aIf, aIc, aGet, aPut, aIald, aBald, aAald, aIast, aBast, aAast, aAlen, aCopy, aCallV, aCallC, aCallI, aRet, aCat, aMax, aMin, aDiv, aRem, aI2l, aL2i, aNul, aSwS, aSw, aInc, aDup, aDup2, aPop1, aIret, aAret, aVret, aLen, aFk, aFT, Value.category, c_sh, c_q, c_f h1, f_sh hf, hA.1.fi]
    · rw [e_217]; simp [s_217, aILoad, aRLoad, aLLoad, aIStore, aRStore, aPush, aBin, aBinL, aShL, aUn, aIf, aIc, aGet, aPut, aIald, aBald, aAald, aIast, aBast, aAast, aAlen, aCopy, aCallV, aCallC, aCallI, aRet, aCat, aMax, aMin, aDiv, aRem, aI2l, aL2i, aNul, aSwS, aSw, aInc, aDup, aDup2, aPop1, aIret, aAret, aVret, aLen, aFk, aFT, Value.category, m_sh, m_p]
  by_cases c7 : w = 7
  · subst c7
    refine Pair.id (v := nI L) h ?_ ?_
    · rw [e_103]; simp [s_103, aILoad, aRLoad, aLLoad, aIStore, aRStore, aPush, aBin, aBinL, aShL, aUn, aIf, aIc, aGet, aPut, aIald, aBald, aAald, aIast, aBast, aAast, aAlen, aCopy, aCallV, aCallC, aCallI, aRet, aCat, aMax, aMin, aDiv, aRem, aI2l, aL2i, aNul, aSwS, aSw, aInc, aDup, aDup2, aPop1, aIret, aAret, aVret, aLen, aFk, aFT, Value.category, c_sh, c_q, c_f h1, f_sh hf, l2]
    · rw [e_217]; simp [s_217, aILoad, aRLoad, aLLoad, aIStore, aRStore, aPush, aBin, aBinL, aShL, aUn, aIf, aIc, aGet, aPut, aIald, aBald, aAald, aIast, aBast, aAast, aAlen, aCopy, aCallV, aCallC, aCallI, aRet, aCat, aMax, aMin, aDiv, aRem, aI2l, aL2i, aNul, aSwS, aSw, aInc, aDup, aDup2, aPop1, aIret, aAret, aVret, aLen, aFk, aFT, Value.category, m_sh, m_p, l3]
  by_cases c8 : w = 8
  · subst c8
    refine Pair.id (v := nI W) h ?_ ?_
    · rw [e_103]; simp [s_103, aILoad, aRLoad, aLLoad, aIStore, aRStore, aPush, aBin, aBinL, aShL, aUn, aIf, aIc, aGet, aPut, aIald, aBald, aAald, aIast, aBast, aAast, aAlen, aCopy, aCallV, aCallC, aCallI, aRet, aCat, aMax, aMin, aDiv, aRem, aI2l, aL2i, aNul, aSwS, aSw, aInc, aDup, aDup2, aPop1, aIret, aAret, aVret, aLen, aFk, aFT, Value.category, c_sh, c_q, c_f h1, f_sh hf, w2]
    · rw [e_217]; simp [s_217, aILoad, aRLoad, aLLoad, aIStore, aRStore, aPush, aBin, aBinL, aShL, aUn, aIf, aIc, aGet, aPut, aIald, aBald, aAald, aIast, aBast, aAast, aAlen, aCopy, aCallV, aCallC, aCallI, aRet, aCat, aMax, aMin, aDiv, aRem, aI2l, aL2i, aNul, aSwS, aSw, aInc, aDup, aDup2, aPop1, aIret, aAret, aVret, aLen, aFk, aFT, Value.category, m_sh, m_p, w3]
  by_cases c9 : w = 9
  · subst c9
    refine Pair.id (v := nI n) h ?_ ?_
    · rw [e_103]; simp [s_103, aILoad, aRLoad, aLLoad, aIStore, aRStore, aPush, aBin, aBinL, aShL, aUn, aIf, aIc, aGet, aPut, aIald, aBald, aAald, aIast, aBast, aAast, aAlen, aCopy, aCallV, aCallC, aCallI, aRet, aCat, aMax, aMin, aDiv, aRem, aI2l, aL2i, aNul, aSwS, aSw, aInc, aDup, aDup2, aPop1, aIret, aAret, aVret, aLen, aFk, aFT, Value.category, c_sh, c_q, n2]
    · rw [e_217]; simp [s_217, aILoad, aRLoad, aLLoad, aIStore, aRStore, aPush, aBin, aBinL, aShL, aUn, aIf, aIc, aGet, aPut, aIald, aBald, aAald, aIast, aBast, aAast, aAlen, aCopy, aCallV, aCallC, aCallI, aRet, aCat, aMax, aMin, aDiv, aRem, aI2l, aL2i, aNul, aSwS, aSw, aInc, aDup, aDup2, aPop1, aIret, aAret, aVret, aLen, aFk, aFT, Value.category, m_sh, m_p, n3]
  by_cases c10 : w = 10
  · subst c10
    refine Pair.id (v := I 114 4) h ?_ ?_
    · rw [e_103]; simp [s_103, aILoad, aRLoad, aLLoad, aIStore, aRStore, aPush, aBin, aBinL, aShL, aUn, aIf, aIc, aGet, aPut, aIald, aBald, aAald, aIast, aBast, aAast, aAlen, aCopy, aCallV, aCallC, aCallI, aRet, aCat, aMax, aMin, aDiv, aRem, aI2l, aL2i, aNul, aSwS, aSw, aInc, aDup, aDup2, aPop1, aIret, aAret, aVret, aLen, aFk, aFT, Value.category, c_sh, c_q, c_f h1, f_sh hf, hA.1.fi]
    · rw [e_217]; simp [s_217, aILoad, aRLoad, aLLoad, aIStore, aRStore, aPush, aBin, aBinL, aShL, aUn, aIf, aIc, aGet, aPut, aIald, aBald, aAald, aIast, aBast, aAast, aAlen, aCopy, aCallV, aCallC, aCallI, aRet, aCat, aMax, aMin, aDiv, aRem, aI2l, aL2i, aNul, aSwS, aSw, aInc, aDup, aDup2, aPop1, aIret, aAret, aVret, aLen, aFk, aFT, Value.category, m_sh, m_p]
  refine Pair.ref 1 (-1000000001) h ?_ (fun I' hI => ?_)
  · rw [e_103]; simp [s_103, aILoad, aRLoad, aLLoad, aIStore, aRStore, aPush, aBin, aBinL, aShL, aUn, aIf, aIc, aGet, aPut, aIald, aBald, aAald, aIast, aBast, aAast, aAlen, aCopy, aCallV, aCallC, aCallI, aRet, aCat, aMax, aMin, aDiv, aRem, aI2l, aL2i, aNul, aSwS, aSw, aInc, aDup, aDup2, aPop1, aIret, aAret, aVret, aLen, aFk, aFT, Value.category, c_sh, c_q, c0, c1, c2, c3, c4, c5, c6, c7, c8, c9, c10, rf_1]
  · rw [e_217]; simp [s_217, aILoad, aRLoad, aLLoad, aIStore, aRStore, aPush, aBin, aBinL, aShL, aUn, aIf, aIc, aGet, aPut, aIald, aBald, aAald, aIast, aBast, aAast, aAlen, aCopy, aCallV, aCallC, aCallI, aRet, aCat, aMax, aMin, aDiv, aRem, aI2l, aL2i, aNul, aSwS, aSw, aInc, aDup, aDup2, aPop1, aIret, aAret, aVret, aLen, aFk, aFT, Value.category, m_sh, m_p, c0, c1, c2, c3, c4, c5, c6, c7, c8, c9, c10, re_1]
theorem pair_told (w : Int32) : Pair 104 218 [.int w] := by
  intro d I x y h
  by_cases hw : 1 ≤ w ∧ w ≤ 6
  · obtain ⟨n, a, b, rfl⟩ := (isIn' (v := w) (a := 1) (b := 6) (by omega) (by omega)).mp hw
    have e := h.2.2.2.1 n a (by omega)
    refine Pair.id (v := I 117 n) h ?_ ?_
    · rw [e_104]; simp [s_104, aILoad, aRLoad, aLLoad, aIStore, aRStore, aPush, aBin, aBinL, aShL, aUn, aIf, aIc, aGet, aPut, aIald, aBald, aAald, aIast, aBast, aAast, aAlen, aCopy, aCallV, aCallC, aCallI, aRet, aCat, aMax, aMin, aDiv, aRem, aI2l, aL2i, aNul, aSwS, aSw, aInc, aDup, aDup2, aPop1, aIret, aAret, aVret, aLen, aFk, aFT, Value.category, c_sh, c_q, k_isIn, hw, e, nI_pos' (n := n) (by omega), toNat_nI (show n < 2 ^ 31 by omega), show n < 7 by omega]
    · rw [e_218]; simp [s_218, aILoad, aRLoad, aLLoad, aIStore, aRStore, aPush, aBin, aBinL, aShL, aUn, aIf, aIc, aGet, aPut, aIald, aBald, aAald, aIast, aBast, aAast, aAlen, aCopy, aCallV, aCallC, aCallI, aRet, aCat, aMax, aMin, aDiv, aRem, aI2l, aL2i, aNul, aSwS, aSw, aInc, aDup, aDup2, aPop1, aIret, aAret, aVret, aLen, aFk, aFT, Value.category, m_sh, m_p, r_in, hw, nI_pos' (n := n) (by omega), toNat_nI (show n < 2 ^ 31 by omega), show n < 7 by omega]
  · refine Pair.ref 1 (-1000000001) h ?_ (fun I' hI => ?_)
    · rw [e_104]; simp [s_104, aILoad, aRLoad, aLLoad, aIStore, aRStore, aPush, aBin, aBinL, aShL, aUn, aIf, aIc, aGet, aPut, aIald, aBald, aAald, aIast, aBast, aAast, aAlen, aCopy, aCallV, aCallC, aCallI, aRet, aCat, aMax, aMin, aDiv, aRem, aI2l, aL2i, aNul, aSwS, aSw, aInc, aDup, aDup2, aPop1, aIret, aAret, aVret, aLen, aFk, aFT, Value.category, c_sh, c_q, k_isIn, hw, rf_1]
    · rw [e_218]; simp [s_218, aILoad, aRLoad, aLLoad, aIStore, aRStore, aPush, aBin, aBinL, aShL, aUn, aIf, aIc, aGet, aPut, aIald, aBald, aAald, aIast, aBast, aAast, aAlen, aCopy, aCallV, aCallC, aCallI, aRet, aCat, aMax, aMin, aDiv, aRem, aI2l, aL2i, aNul, aSwS, aSw, aInc, aDup, aDup2, aPop1, aIret, aAret, aVret, aLen, aFk, aFT, Value.category, m_sh, m_p, r_in, hw, re_1]
theorem pair_body (w : Int32) : Pair 93 205 [.int w] := by
  intro d I x y h
  obtain ⟨n, n1, n2, n3, n4⟩ := h.2.2.2.2.2
  by_cases hw : 0 ≤ w ∧ w ≤ nI n - 1
  · obtain ⟨j, hj, rfl⟩ := (isIx (by omega)).mp hw
    refine Pair.id (v := I 123 j) h ?_ ?_
    · rw [e_93]; simp [s_93, aILoad, aRLoad, aLLoad, aIStore, aRStore, aPush, aBin, aBinL, aShL, aUn, aIf, aIc, aGet, aPut, aIald, aBald, aAald, aIast, aBast, aAast, aAlen, aCopy, aCallV, aCallC, aCallI, aRet, aCat, aMax, aMin, aDiv, aRem, aI2l, aL2i, aNul, aSwS, aSw, aInc, aDup, aDup2, aPop1, aIret, aAret, aVret, aLen, aFk, aFT, Value.category, c_sh, c_q, k_isIn, n2, hw, n4 j hj, toNat_nI (show j < 2 ^ 31 by omega), show j < 30 by omega]
    · rw [e_205]; simp [s_205, aILoad, aRLoad, aLLoad, aIStore, aRStore, aPush, aBin, aBinL, aShL, aUn, aIf, aIc, aGet, aPut, aIald, aBald, aAald, aIast, aBast, aAast, aAlen, aCopy, aCallV, aCallC, aCallI, aRet, aCat, aMax, aMin, aDiv, aRem, aI2l, aL2i, aNul, aSwS, aSw, aInc, aDup, aDup2, aPop1, aIret, aAret, aVret, aLen, aFk, aFT, Value.category, m_sh, m_p, r_in, n3, hw, toNat_nI (show j < 2 ^ 31 by omega), show j < 30 by omega]
  · refine Pair.ref 2 (-1000000002) h ?_ (fun I' hI => ?_)
    · rw [e_93]; simp [s_93, aILoad, aRLoad, aLLoad, aIStore, aRStore, aPush, aBin, aBinL, aShL, aUn, aIf, aIc, aGet, aPut, aIald, aBald, aAald, aIast, aBast, aAast, aAlen, aCopy, aCallV, aCallC, aCallI, aRet, aCat, aMax, aMin, aDiv, aRem, aI2l, aL2i, aNul, aSwS, aSw, aInc, aDup, aDup2, aPop1, aIret, aAret, aVret, aLen, aFk, aFT, Value.category, c_sh, c_q, k_isIn, n2, hw, rf_2]
    · have n3' : I' 113 14 = nI n := by rw [hI 113 (by decide)]; exact n3
      rw [e_205]; simp [s_205, aILoad, aRLoad, aLLoad, aIStore, aRStore, aPush, aBin, aBinL, aShL, aUn, aIf, aIc, aGet, aPut, aIald, aBald, aAald, aIast, aBast, aAast, aAlen, aCopy, aCallV, aCallC, aCallI, aRet, aCat, aMax, aMin, aDiv, aRem, aI2l, aL2i, aNul, aSwS, aSw, aInc, aDup, aDup2, aPop1, aIret, aAret, aVret, aLen, aFk, aFT, Value.category, m_sh, m_p, r_in, n3', hw, re_2]
theorem pair_tell (v : Int32) : Pair 101 215 [.int v] := by
  intro d I x y h
  obtain ⟨f, P, T, h1, hf, hA⟩ := h.f
  obtain ⟨hL, ⟨W, w1, w2, w3, w4⟩, hB⟩ := hA.2.1
  by_cases h24 : W = 24
  · subst h24
    have w3' : I 114 6 = 24 := w3
    refine Pair.ref 4 (-1000000004) h ?_ (fun I' hI => ?_)
    · rw [e_101]; simp [s_101, aILoad, aRLoad, aLLoad, aIStore, aRStore, aPush, aBin, aBinL, aShL, aUn, aIf, aIc, aGet, aPut, aIald, aBald, aAald, aIast, aBast, aAast, aAlen, aCopy, aCallV, aCallC, aCallI, aRet, aCat, aMax, aMin, aDiv, aRem, aI2l, aL2i, aNul, aSwS, aSw, aInc, aDup, aDup2, aPop1, aIret, aAret, aVret, aLen, aFk, aFT, Value.category, c_sh, c_q, c_f h1, f_sh hf, w2, show ¬ nI 24 < (24 : Int32) by decide, rf_4]
    · have e6 : I' 114 6 = 24 := by rw [hI 114 (by decide)]; exact w3'
      rw [e_215]; simp [s_215, aILoad, aRLoad, aLLoad, aIStore, aRStore, aPush, aBin, aBinL, aShL, aUn, aIf, aIc, aGet, aPut, aIald, aBald, aAald, aIast, aBast, aAast, aAlen, aCopy, aCallV, aCallC, aCallI, aRet, aCat, aMax, aMin, aDiv, aRem, aI2l, aL2i, aNul, aSwS, aSw, aInc, aDup, aDup2, aPop1, aIret, aAret, aVret, aLen, aFk, aFT, Value.category, m_sh, m_p, e6, re_4]
  · have hW : W < 24 := by omega
    have lt : ¬ (24 : Int32) ≤ nI W := by rw [show (24 : Int32) = nI 24 from rfl]; exact nI_ge hW (by omega)
    have ne : ¬ nI W = 24 := fun z => h24 ((nI_eq (b := 24) (by omega) (by omega)).mp z)
    have e114 : aUpd (aUpd I (f + 12) W v) f 9 (nI (W + 1)) 114 = I 114 := by rw [aUpd_ne (by omega), aUpd_ne (by omega)]
    have n1 : ∀ (J : Nat → Nat → Int32) k v, aUpd J (f + 12) k v f = J f := fun J k v => aUpd_ne (by omega)
    have ix : (430 : Int32) + nI W = nI (430 + W) := nI_add 430 W
    refine Pair.now (v := nI (W + 1)) (I1 := aUpd (aUpd I (f + 12) W v) f 9 (nI (W + 1))) (I2 := aUpd (aUpd (aUpd (aUpd I (f + 12) W v) f 9 (nI (W + 1))) 114 (430 + W) v) 114 6 (nI (W + 1))) (P := P) (T := T) h h1 ?_ ?_ ((KG.rf.upd (by omega) (by omega)).upd (by omega) (by omega)) ((RG.rf.upd).upd) ?_
    · rw [e_101]; simp [s_101, aILoad, aRLoad, aLLoad, aIStore, aRStore, aPush, aBin, aBinL, aShL, aUn, aIf, aIc, aGet, aPut, aIald, aBald, aAald, aIast, aBast, aAast, aAlen, aCopy, aCallV, aCallC, aCallI, aRet, aCat, aMax, aMin, aDiv, aRem, aI2l, aL2i, aNul, aSwS, aSw, aInc, aDup, aDup2, aPop1, aIret, aAret, aVret, aLen, aFk, aFT, Value.category, c_sh, c_q, c_f h1, f_sh hf, f_p hf, w2, Int32.not_le.mp lt, n1, nI_lt0 (show W < 2 ^ 31 by omega), toNat_nI (show W < 2 ^ 31 by omega), show ¬ 24 ≤ W by omega, nI_1, aUpd_row, upd_eq]
    · rw [e_215]; simp [s_215, aILoad, aRLoad, aLLoad, aIStore, aRStore, aPush, aBin, aBinL, aShL, aUn, aIf, aIc, aGet, aPut, aIald, aBald, aAald, aIast, aBast, aAast, aAlen, aCopy, aCallV, aCallC, aCallI, aRet, aCat, aMax, aMin, aDiv, aRem, aI2l, aL2i, aNul, aSwS, aSw, aInc, aDup, aDup2, aPop1, aIret, aAret, aVret, aLen, aFk, aFT, Value.category, m_sh, m_p, e114, w3, ne, ix, nI_pos' (n := 430 + W) (by omega), toNat_nI (show 430 + W < 2 ^ 31 by omega), show 430 + W < 454 by omega, aUpd_row, upd, show ¬ (6 = 430 + W) by omega, nI_1]
    · have hσ : ∀ k, k ≠ 6 → (k < 430 ∨ 430 + W < k ∨ k < 430 + W) → upd (upd (I 114) (430 + W) v) 6 (nI (W + 1)) k = I 114 k := fun k a b => by rw [upd_ne a, upd_ne (by omega)]
      have hJ : ∀ k, k ≠ 9 → aUpd (aUpd I (f + 12) W v) f 9 (nI (W + 1)) f k = I f k := fun k hk => by rw [aUpd_row, upd_ne hk, n1]
      have hR : ∀ r, r ≠ f → r ≠ f + 12 → aUpd (aUpd I (f + 12) W v) f 9 (nI (W + 1)) r = I r := fun r a b => by rw [aUpd_ne a, aUpd_ne b]
      simp only [aUpd_row, e114]
      refine ⟨?_, ⟨?_, ⟨W + 1, by omega, by rw [aUpd_row, upd_eq], upd_eq, fun i hi => ?_⟩, fun i hi => by rw [hR _ (by omega) (by omega)]; exact hB i hi⟩, ?_⟩
      · obtain ⟨g1, g2, g3, g4, g5, g6, g7, g8, g9⟩ := hA.1
        refine ⟨g1, ⟨by rw [hJ 6 (by omega)]; exact g2.1, by rw [hJ 7 (by omega)]; exact g2.2⟩, ⟨by rw [hσ 7 (by omega) (by omega)]; exact g3.1, by rw [hσ 8 (by omega) (by omega)]; exact g3.2⟩, fun p hp => by rw [hR _ (by omega) (by omega)]; exact g4 p hp, fun p hp j hj => by rw [hR _ (by omega) (by omega), hσ _ (by omega) (by omega)]; exact g5 p hp j hj, fun t ht j hj => by rw [hR _ (by omega) (by omega), hσ _ (by omega) (by omega)]; exact g6 t ht j hj, fun k hk => by rw [hJ _ (by omega), hσ _ (by omega) (by omega)]; exact g7 k hk, relL_congr g8 (hR _ (by omega) (by omega)) (hR _ (by omega) (by omega)) (hR _ (by omega) (by omega)) (fun _ _ _ => hσ _ (by omega) (by omega)), relL_congr g9 (hR _ (by omega) (by omega)) (hR _ (by omega) (by omega)) (hR _ (by omega) (by omega)) (fun _ _ _ => hσ _ (by omega) (by omega))⟩
      · obtain ⟨L, l1, l2, l3, l4⟩ := hL
        exact ⟨L, l1, by rw [hJ 8 (by omega)]; exact l2, by rw [hσ 5 (by omega) (by omega)]; exact l3, fun i hi => by rw [hR _ (by omega) (by omega), hσ _ (by omega) (by omega)]; exact l4 i hi⟩
      · rw [aUpd_ne (by omega), aUpd_row]
        by_cases e : i = W
        · subst e; rw [upd_eq, upd_ne (by omega), upd_eq]
        · rw [upd_ne e, hσ _ (by omega) (by omega)]; exact w4 i (by omega)
      · have hw := hA.2.2
        exact (hw.set (k := 430 + W) (v := v) (fun q _ z => by have := hA.1.1; omega) (fun q _ z => by have := hA.1.1; omega) (fun q _ z => by have := hA.1.1; omega) (fun q _ z => by have := hA.1.1; omega) (fun q _ z => by have := hA.1.1; omega) (fun q _ z => by have := hA.1.1; omega) (fun q _ z => by have := hA.1.1; omega) (by omega) (fun _ _ => by omega)).set (k := 6) (fun q _ z => by omega) (fun q _ z => by omega) (fun q _ z => by omega) (fun q _ z => by omega) (fun q _ z => by omega) (fun q _ z => by omega) (fun q _ z => by omega) (by omega) (fun _ _ => by omega)
end PAIR7
