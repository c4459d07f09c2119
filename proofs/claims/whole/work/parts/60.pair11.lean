/-! the calls in pairs: wants, trap, oldest, odds -/
section PAIR11
variable {d : Nat} {I : Nat → Nat → Int32} {x y : Option Nat}
theorem pair_wants (v s w : Int32) : Pair 83 182 [.int v, .int s, .int w] := by
  intro d I x y h
  obtain ⟨f, P, T, h1, hf, hA⟩ := h.f
  have hP := hA.1.1
  have e7 := hA.1.fi.2.2.1
  have e8 := hA.1.fi.2.2.2.1
  by_cases hp : 0 ≤ v ∧ v ≤ nI P - 1
  · obtain ⟨p, hpP, rfl⟩ := (isIx (by omega)).mp hp
    have pa := k_personAt (d := d + 17) (x := x) (y := y) hf hA.1 hpP
    have s2 := f_pe hf (show p < 8 by omega)
    by_cases hs : 0 ≤ s ∧ s ≤ 1
    · by_cases hw : 0 ≤ w ∧ w ≤ 1
      · obtain ⟨I1, k1, k2⟩ := k_wanted (d := d + 14) (x := x) (y := y) (s := s) hf hA.1 hpP hA.2.2.ok hA.2.2.th
        have g1 := hA.1.kf k2
        have e114 : I1 114 = I 114 := k2 114 (by omega) (by omega)
        rcases in_01 hw with rfl | rfl
        · obtain ⟨I2, r1, r2⟩ := r_wanted (d := d + 11) (x := x) (y := y) (I := I1) (p := p) (s := s) (by omega) hP.2 (by rw [e114]; exact e8) (by rw [e114]; exact hA.2.2.ok)
          rw [e114] at r1
          refine Pair.scr (v := sWant (I 114) p s) h h1 ?_ ?_ k2 r2
          · rw [e_83]; simp [s_83, aILoad, aRLoad, aLLoad, aIStore, aRStore, aPush, aBin, aBinL, aShL, aUn, aIf, aIc, aGet, aPut, aIald, aBald, aAald, aIast, aBast, aAast, aAlen, aCopy, aCallV, aCallC, aCallI, aRet, aCat, aMax, aMin, aDiv, aRem, aI2l, aL2i, aNul, aSwS, aSw, aInc, aDup, aDup2, aPop1, aIret, aAret, aVret, aLen, aFk, aFT, Value.category, c_sh, c_f h1, f_sh hf, s2, pa, k_isIn, hs, k1]
          · rw [e_182]; simp [s_182, aILoad, aRLoad, aLLoad, aIStore, aRStore, aPush, aBin, aBinL, aShL, aUn, aIf, aIc, aGet, aPut, aIald, aBald, aAald, aIast, aBast, aAast, aAlen, aCopy, aCallV, aCallC, aCallI, aRet, aCat, aMax, aMin, aDiv, aRem, aI2l, aL2i, aNul, aSwS, aSw, aInc, aDup, aDup2, aPop1, aIret, aAret, aVret, aLen, aFk, aFT, Value.category, m_sh, m_p, r_isPerson, e114, e7, hp, r_in, hs, r1]
        · rcases sWant_c (σ := I 114) (p := p) (s := s) e8 hP.2 with hc | ⟨t, ht, hc⟩
          · obtain ⟨I2, r1, r2⟩ := r_wanted (d := d + 11) (x := x) (y := y) (I := I1) (p := p) (s := s) (by omega) hP.2 (by rw [e114]; exact e8) (by rw [e114]; exact hA.2.2.ok)
            rw [e114, hc] at r1
            rw [hc] at k1
            have tn := k_thingNo (d := d + 17) (v := -1) (x := x) (y := y) hf g1 (fun z => absurd z.1 (by decide))
            refine Pair.scr (v := 0) h h1 ?_ ?_ k2 r2
            · rw [e_83]; simp [s_83, aILoad, aRLoad, aLLoad, aIStore, aRStore, aPush, aBin, aBinL, aShL, aUn, aIf, aIc, aGet, aPut, aIald, aBald, aAald, aIast, aBast, aAast, aAlen, aCopy, aCallV, aCallC, aCallI, aRet, aCat, aMax, aMin, aDiv, aRem, aI2l, aL2i, aNul, aSwS, aSw, aInc, aDup, aDup2, aPop1, aIret, aAret, aVret, aLen, aFk, aFT, Value.category, c_sh, c_f h1, f_sh hf, s2, pa, k_isIn, hs, k1, tn]
            · rw [e_182]; simp [s_182, aILoad, aRLoad, aLLoad, aIStore, aRStore, aPush, aBin, aBinL, aShL, aUn, aIf, aIc, aGet, aPut, aIald, aBald, aAald, aIast, aBast, aAast, aAlen, aCopy, aCallV, aCallC, aCallI, aRet, aCat, aMax, aMin, aDiv, aRem, aI2l, aL2i, aNul, aSwS, aSw, aInc, aDup, aDup2, aPop1, aIret, aAret, aVret, aLen, aFk, aFT, Value.category, m_sh, m_p, r_isPerson, e114, e7, hp, r_in, hs, r1]
          · have hne : ¬ nI t = -1 := fun z => absurd (z ▸ nI_pos' (n := t) (by omega)) (by decide)
            obtain ⟨I2, k3, k4⟩ := k_pull (d := d + 15) (x := x) (y := y) (s := s) hf g1 hpP ht hA.2.2.ok
            have e2 : I2 114 = I 114 := by rw [k4 114 (by omega) (by omega)]; exact e114
            obtain ⟨I3, r1, r2⟩ := r_wanted (d := d + 11) (x := x) (y := y) (I := I2) (p := p) (s := s) (by omega) hP.2 (by rw [e2]; exact e8) (by rw [e2]; exact hA.2.2.ok)
            have e3 : I3 114 = I 114 := by rw [r2.a]; exact e2
            obtain ⟨I4, r3, r4⟩ := r_drawn (d := d + 12) (x := x) (y := y) (I := I3) (p := p) (t := t) (s := s) (by omega) (by omega) (by rw [e3]; exact hA.2.2.ok)
            rw [e2, hc] at r1
            rw [e3] at r3
            rw [hc] at k1
            have ta := k_thingAt (d := d + 17) (x := x) (y := y) hf g1 ht
            refine Pair.scr (v := sPull (I 114) p t s) h h1 ?_ ?_ (k2.trans k4) (r2.trans r4)
            · rw [e_83]; simp [s_83, aILoad, aRLoad, aLLoad, aIStore, aRStore, aPush, aBin, aBinL, aShL, aUn, aIf, aIc, aGet, aPut, aIald, aBald, aAald, aIast, aBast, aAast, aAlen, aCopy, aCallV, aCallC, aCallI, aRet, aCat, aMax, aMin, aDiv, aRem, aI2l, aL2i, aNul, aSwS, aSw, aInc, aDup, aDup2, aPop1, aIret, aAret, aVret, aLen, aFk, aFT, Value.category, c_sh, c_f h1, f_sh hf, s2, f_th hf (show t < 10 by omega), pa, k_isIn, hs, k1, ta, k3]
            · rw [e_182]; simp [s_182, aILoad, aRLoad, aLLoad, aIStore, aRStore, aPush, aBin, aBinL, aShL, aUn, aIf, aIc, aGet, aPut, aIald, aBald, aAald, aIast, aBast, aAast, aAlen, aCopy, aCallV, aCallC, aCallI, aRet, aCat, aMax, aMin, aDiv, aRem, aI2l, aL2i, aNul, aSwS, aSw, aInc, aDup, aDup2, aPop1, aIret, aAret, aVret, aLen, aFk, aFT, Value.category, m_sh, m_p, r_isPerson, e2, e7, hp, r_in, hs, r1, hne, r3]
      · refine Pair.ref 1 (-1000000001) h ?_ (fun I' hI => ?_)
        · rw [e_83]; simp [s_83, aILoad, aRLoad, aLLoad, aIStore, aRStore, aPush, aBin, aBinL, aShL, aUn, aIf, aIc, aGet, aPut, aIald, aBald, aAald, aIast, aBast, aAast, aAlen, aCopy, aCallV, aCallC, aCallI, aRet, aCat, aMax, aMin, aDiv, aRem, aI2l, aL2i, aNul, aSwS, aSw, aInc, aDup, aDup2, aPop1, aIret, aAret, aVret, aLen, aFk, aFT, Value.category, c_sh, c_f h1, f_sh hf, pa, k_isIn, hs, hw, rf_1]
        · have e7' : I' 114 7 = nI P := by rw [hI 114 (by decide)]; exact e7
          rw [e_182]; simp [s_182, aILoad, aRLoad, aLLoad, aIStore, aRStore, aPush, aBin, aBinL, aShL, aUn, aIf, aIc, aGet, aPut, aIald, aBald, aAald, aIast, aBast, aAast, aAlen, aCopy, aCallV, aCallC, aCallI, aRet, aCat, aMax, aMin, aDiv, aRem, aI2l, aL2i, aNul, aSwS, aSw, aInc, aDup, aDup2, aPop1, aIret, aAret, aVret, aLen, aFk, aFT, Value.category, m_sh, m_p, r_isPerson, e7', hp, r_in, hs, hw, re_1]
    · refine Pair.ref 1 (-1000000001) h ?_ (fun I' hI => ?_)
      · rw [e_83]; simp [s_83, aILoad, aRLoad, aLLoad, aIStore, aRStore, aPush, aBin, aBinL, aShL, aUn, aIf, aIc, aGet, aPut, aIald, aBald, aAald, aIast, aBast, aAast, aAlen, aCopy, aCallV, aCallC, aCallI, aRet, aCat, aMax, aMin, aDiv, aRem, aI2l, aL2i, aNul, aSwS, aSw, aInc, aDup, aDup2, aPop1, aIret, aAret, aVret, aLen, aFk, aFT, Value.category, c_sh, c_f h1, f_sh hf, pa, k_isIn, hs, rf_1]
      · have e7' : I' 114 7 = nI P := by rw [hI 114 (by decide)]; exact e7
        rw [e_182]; simp [s_182, aILoad, aRLoad, aLLoad, aIStore, aRStore, aPush, aBin, aBinL, aShL, aUn, aIf, aIc, aGet, aPut, aIald, aBald, aAald, aIast, aBast, aAast, aAlen, aCopy, aCallV, aCallC, aCallI, aRet, aCat, aMax, aMin, aDiv, aRem, aI2l, aL2i, aNul, aSwS, aSw, aInc, aDup, aDup2, aPop1, aIret, aAret, aVret, aLen, aFk, aFT, Value.category, m_sh, m_p, r_isPerson, e7', hp, r_in, hs, re_1]
  · have pa := k_personNo (d := d + 17) (x := x) (y := y) hf hA.1 hp
    refine Pair.ref 1 (-1000000001) h ?_ (fun I' hI => ?_)
    · rw [e_83]; simp [s_83, aILoad, aRLoad, aLLoad, aIStore, aRStore, aPush, aBin, aBinL, aShL, aUn, aIf, aIc, aGet, aPut, aIald, aBald, aAald, aIast, aBast, aAast, aAlen, aCopy, aCallV, aCallC, aCallI, aRet, aCat, aMax, aMin, aDiv, aRem, aI2l, aL2i, aNul, aSwS, aSw, aInc, aDup, aDup2, aPop1, aIret, aAret, aVret, aLen, aFk, aFT, Value.category, c_sh, c_f h1, f_sh hf, pa, rf_1]
    · have e7' : I' 114 7 = nI P := by rw [hI 114 (by decide)]; exact e7
      rw [e_182]; simp [s_182, aILoad, aRLoad, aLLoad, aIStore, aRStore, aPush, aBin, aBinL, aShL, aUn, aIf, aIc, aGet, aPut, aIald, aBald, aAald, aIast, aBast, aAast, aAlen, aCopy, aCallV, aCallC, aCallI, aRet, aCat, aMax, aMin, aDiv, aRem, aI2l, aL2i, aNul, aSwS, aSw, aInc, aDup, aDup2, aPop1, aIret, aAret, aVret, aLen, aFk, aFT, Value.category, m_sh, m_p, r_isPerson, e7', hp, re_1]
theorem r_trap_loop {v s : Int32} {P T : Nat} {I0 : Nat → Nat → Int32} (hP : P ≤ 8) (hT : T ≤ 10) (h7 : I0 114 7 = nI P) (h8 : I0 114 8 = nI T) (hok : okT (I0 114)) : ∀ k p (I : Nat → Nat → Int32), p + k = P → RF I0 I →
    ∃ I1, aGo (aCall aMt (d + 8)) none cd_183 0 28 [some (.ref 113), some (.int v), some (.int s), some (.int (nI (bS (sWs (I0 114) s v) p))), some (.int (nI p))] [] (HH I x y) = some (some (.int (nI (bS (sWs (I0 114) s v) P))), HH I1 x y) ∧ RF I0 I1 := by
  intro k
  induction k with
  | zero =>
    intro p I hp hk
    obtain rfl : p = P := by omega
    refine ⟨I, ?_, hk⟩
    rw [s_183_28]
    simp [s_183, aILoad, aRLoad, aLLoad, aIStore, aRStore, aPush, aBin, aBinL, aShL, aUn, aIf, aIc, aGet, aPut, aIald, aBald, aAald, aIast, aBast, aAast, aAlen, aCopy, aCallV, aCallC, aCallI, aRet, aCat, aMax, aMin, aDiv, aRem, aI2l, aL2i, aNul, aSwS, aSw, aInc, aDup, aDup2, aPop1, aIret, aAret, aVret, aLen, aFk, aFT, Value.category, m_sh, m_p, hk.a, h7]
  | succ k ih =>
    intro p I hp hk
    have h1 : ¬ nI P ≤ nI p := nI_ge (by omega) (by omega)
    obtain ⟨I2, h3, h4⟩ := r_wanted (d := d) (x := x) (y := y) (I := I) (p := p) (s := s) (by omega) hT (by rw [hk.a]; exact h8) (by rw [hk.a]; exact hok)
    rw [hk.a] at h3
    obtain ⟨I1, g1, g2⟩ := ih (p + 1) I2 (by omega) (hk.trans h4)
    refine ⟨I1, ?_, g2⟩
    rw [← g1, s_183_28]
    by_cases hc : sWant (I0 114) p s = v
    · have e : bS (sWs (I0 114) s v) (p + 1) = bS (sWs (I0 114) s v) p + 2 ^ p := by rw [bS, sWs, hc, if_pos (by simp)]
      rw [e, ← or_bit (show p < 16 by omega) (bS_lt _ p)]
      simp [s_183, aILoad, aRLoad, aLLoad, aIStore, aRStore, aPush, aBin, aBinL, aShL, aUn, aIf, aIc, aGet, aPut, aIald, aBald, aAald, aIast, aBast, aAast, aAlen, aCopy, aCallV, aCallC, aCallI, aRet, aCat, aMax, aMin, aDiv, aRem, aI2l, aL2i, aNul, aSwS, aSw, aInc, aDup, aDup2, aPop1, aIret, aAret, aVret, aLen, aFk, aFT, Value.category, m_sh, m_p, hk.a, h7, h1, h3, hc, nI_1]
    · have e : bS (sWs (I0 114) s v) (p + 1) = bS (sWs (I0 114) s v) p := by rw [bS, sWs, if_neg (by simpa using hc)]; rfl
      rw [e]
      simp [s_183, aILoad, aRLoad, aLLoad, aIStore, aRStore, aPush, aBin, aBinL, aShL, aUn, aIf, aIc, aGet, aPut, aIald, aBald, aAald, aIast, aBast, aAast, aAlen, aCopy, aCallV, aCallC, aCallI, aRet, aCat, aMax, aMin, aDiv, aRem, aI2l, aL2i, aNul, aSwS, aSw, aInc, aDup, aDup2, aPop1, aIret, aAret, aVret, aLen, aFk, aFT, Value.category, m_sh, m_p, hk.a, h7, h1, h3, hc, nI_1]
theorem pair_trap (v s : Int32) : Pair 84 183 [.int v, .int s] := by
  intro d I x y h
  obtain ⟨f, P, T, h1, hf, hA⟩ := h.f
  have hP := hA.1.1
  have e7 := hA.1.fi.2.2.1
  have e8 := hA.1.fi.2.2.2.1
  by_cases ht : 0 ≤ v ∧ v ≤ nI T - 1
  · obtain ⟨t, htT, rfl⟩ := (isIx (by omega)).mp ht
    have ta := k_thingAt (d := d + 17) (x := x) (y := y) hf hA.1 htT
    by_cases hs : 0 ≤ s ∧ s ≤ 1
    · obtain ⟨I1, k1, k2⟩ := k_wanters (d := d + 13) (x := x) (y := y) (v := nI t) (s := s) hf hA.1 hA.2.2.ok hA.2.2.th
      have e114 : I1 114 = I 114 := k2 114 (by omega) (by omega)
      obtain ⟨I2, r1, r2⟩ := r_trap_loop (d := d + 11) (x := x) (y := y) (v := nI t) (s := s) (I0 := I1) hP.1 hP.2 (by rw [e114]; exact e7) (by rw [e114]; exact e8) (by rw [e114]; exact hA.2.2.ok) P 0 I1 (by omega) RF.rf
      rw [e114] at r1
      rw [bS, nI_lit0] at r1
      refine Pair.scr (v := nI (bS (sWs (I 114) s (nI t)) P)) h h1 ?_ ?_ k2 r2
      · rw [e_84]; simp [s_84, aILoad, aRLoad, aLLoad, aIStore, aRStore, aPush, aBin, aBinL, aShL, aUn, aIf, aIc, aGet, aPut, aIald, aBald, aAald, aIast, aBast, aAast, aAlen, aCopy, aCallV, aCallC, aCallI, aRet, aCat, aMax, aMin, aDiv, aRem, aI2l, aL2i, aNul, aSwS, aSw, aInc, aDup, aDup2, aPop1, aIret, aAret, aVret, aLen, aFk, aFT, Value.category, c_sh, c_f h1, f_sh hf, ta, k_isIn, hs, k1]
      · rw [e_183, ← r1]; simp [s_183, aILoad, aRLoad, aLLoad, aIStore, aRStore, aPush, aBin, aBinL, aShL, aUn, aIf, aIc, aGet, aPut, aIald, aBald, aAald, aIast, aBast, aAast, aAlen, aCopy, aCallV, aCallC, aCallI, aRet, aCat, aMax, aMin, aDiv, aRem, aI2l, aL2i, aNul, aSwS, aSw, aInc, aDup, aDup2, aPop1, aIret, aAret, aVret, aLen, aFk, aFT, Value.category, m_sh, m_p, r_isThing, e114, e8, ht, r_in, hs]
    · refine Pair.ref 1 (-1000000001) h ?_ (fun I' hI => ?_)
      · rw [e_84]; simp [s_84, aILoad, aRLoad, aLLoad, aIStore, aRStore, aPush, aBin, aBinL, aShL, aUn, aIf, aIc, aGet, aPut, aIald, aBald, aAald, aIast, aBast, aAast, aAlen, aCopy, aCallV, aCallC, aCallI, aRet, aCat, aMax, aMin, aDiv, aRem, aI2l, aL2i, aNul, aSwS, aSw, aInc, aDup, aDup2, aPop1, aIret, aAret, aVret, aLen, aFk, aFT, Value.category, c_sh, c_f h1, f_sh hf, ta, k_isIn, hs, rf_1]
      · have e8' : I' 114 8 = nI T := by rw [hI 114 (by decide)]; exact e8
        rw [e_183]; simp [s_183, aILoad, aRLoad, aLLoad, aIStore, aRStore, aPush, aBin, aBinL, aShL, aUn, aIf, aIc, aGet, aPut, aIald, aBald, aAald, aIast, aBast, aAast, aAlen, aCopy, aCallV, aCallC, aCallI, aRet, aCat, aMax, aMin, aDiv, aRem, aI2l, aL2i, aNul, aSwS, aSw, aInc, aDup, aDup2, aPop1, aIret, aAret, aVret, aLen, aFk, aFT, Value.category, m_sh, m_p, r_isThing, e8', ht, r_in, hs, re_1]
  · have ta := k_thingNo (d := d + 17) (x := x) (y := y) hf hA.1 ht
    refine Pair.ref 1 (-1000000001) h ?_ (fun I' hI => ?_)
    · rw [e_84]; simp [s_84, aILoad, aRLoad, aLLoad, aIStore, aRStore, aPush, aBin, aBinL, aShL, aUn, aIf, aIc, aGet, aPut, aIald, aBald, aAald, aIast, aBast, aAast, aAlen, aCopy, aCallV, aCallC, aCallI, aRet, aCat, aMax, aMin, aDiv, aRem, aI2l, aL2i, aNul, aSwS, aSw, aInc, aDup, aDup2, aPop1, aIret, aAret, aVret, aLen, aFk, aFT, Value.category, c_sh, c_f h1, f_sh hf, ta, rf_1]
    · have e8' : I' 114 8 = nI T := by rw [hI 114 (by decide)]; exact e8
      rw [e_183]; simp [s_183, aILoad, aRLoad, aLLoad, aIStore, aRStore, aPush, aBin, aBinL, aShL, aUn, aIf, aIc, aGet, aPut, aIald, aBald, aAald, aIast, aBast, aAast, aAlen, aCopy, aCallV, aCallC, aCallI, aRet, aCat, aMax, aMin, aDiv, aRem, aI2l, aL2i, aNul, aSwS, aSw, aInc, aDup, aDup2, aPop1, aIret, aAret, aVret, aLen, aFk, aFT, Value.category, m_sh, m_p, r_isThing, e8', ht, re_1]
def sOld (σ : Nat → Int32) : Nat → Int32 × Int32
  | 0 => (-1, -1)
  | t + 1 => if sTh σ t = true ∧ (sOld σ t).2 < σ (53 + 7 * t) then (nI t, σ (53 + 7 * t)) else sOld σ t
theorem sOld_c (σ : Nat → Int32) : ∀ T, sOld σ T = (-1, -1) ∨ ∃ u, u < T ∧ sOld σ T = (nI u, σ (53 + 7 * u))
  | 0 => Or.inl rfl
  | t + 1 => by
    rw [sOld]
    split
    · exact Or.inr ⟨t, by omega, rfl⟩
    · exact (sOld_c σ t).imp id fun ⟨u, a, b⟩ => ⟨u, by omega, b⟩
theorem k_old_loop {f P T : Nat} {σ : Nat → Int32} (h1 : f = 1) (hf : isF f) (h : relF f I σ P T) (hw : wfTh σ T) : ∀ k t, t + k = T →
    aGo (aCall aMt (d + 2)) none cd_91 0 6 [some (.ref 0), some (.int (sOld σ t).1), some (.int (sOld σ t).2), some (.int (nI t))] [] (HH I x y) = aGo (aCall aMt (d + 2)) none cd_91 0 69 [some (.ref 0), some (.int (sOld σ T).1), some (.int (sOld σ T).2), some (.int (nI T))] [] (HH I x y) := by
  have hP := h.1
  intro k
  induction k with
  | zero =>
    intro t ht
    obtain rfl : t = T := by omega
    rw [s_91_6]
    simp [s_91, aILoad, aRLoad, aLLoad, aIStore, aRStore, aPush, aBin, aBinL, aShL, aUn, aIf, aIc, aGet, aPut, aIald, aBald, aAald, aIast, aBast, aAast, aAlen, aCopy, aCallV, aCallC, aCallI, aRet, aCat, aMax, aMin, aDiv, aRem, aI2l, aL2i, aNul, aSwS, aSw, aInc, aDup, aDup2, aPop1, aIret, aAret, aVret, aLen, aFk, aFT, Value.category, c_sh, c_f h1, f_sh hf, h.fi]
  | succ k ih =>
    intro t ht
    have g1 : ¬ nI T ≤ nI t := nI_ge (by omega) (by omega)
    have g := ih (t + 1) (by omega)
    rw [s_91_6, ← g]
    rcases hw t (by omega) with hi | hi
    · have es : sOld σ (t + 1) = sOld σ t := by rw [sOld, if_neg (by simp [sTh, hi])]
      rw [es]
      simp [s_91, aILoad, aRLoad, aLLoad, aIStore, aRStore, aPush, aBin, aBinL, aShL, aUn, aIf, aIc, aGet, aPut, aIald, aBald, aAald, aIast, aBast, aAast, aAlen, aCopy, aCallV, aCallC, aCallI, aRet, aCat, aMax, aMin, aDiv, aRem, aI2l, aL2i, aNul, aSwS, aSw, aInc, aDup, aDup2, aPop1, aIret, aAret, aVret, aLen, aFk, aFT, Value.category, c_sh, c_f h1, f_sh hf, f_p hf, f_tp hf (show t < 10 by omega), f_th hf (show t < 10 by omega), h.fi, h.th (show t < T by omega), g1, hi, nI_1, toNat_nI (show t < 2 ^ 31 by omega), nI_lt0 (show t < 2 ^ 31 by omega), show ¬ 10 ≤ t by omega]
    · by_cases ha : (sOld σ t).2 < σ (53 + 7 * t)
      · have es : sOld σ (t + 1) = (nI t, σ (53 + 7 * t)) := by rw [sOld, if_pos ⟨by simp [sTh, hi], ha⟩]
        rw [es]
        simp [s_91, aILoad, aRLoad, aLLoad, aIStore, aRStore, aPush, aBin, aBinL, aShL, aUn, aIf, aIc, aGet, aPut, aIald, aBald, aAald, aIast, aBast, aAast, aAlen, aCopy, aCallV, aCallC, aCallI, aRet, aCat, aMax, aMin, aDiv, aRem, aI2l, aL2i, aNul, aSwS, aSw, aInc, aDup, aDup2, aPop1, aIret, aAret, aVret, aLen, aFk, aFT, Value.category, c_sh, c_f h1, f_sh hf, f_p hf, f_tp hf (show t < 10 by omega), f_th hf (show t < 10 by omega), h.fi, h.th (show t < T by omega), g1, hi, ha, Int32.not_le.mpr ha, nI_1, toNat_nI (show t < 2 ^ 31 by omega), nI_lt0 (show t < 2 ^ 31 by omega), show ¬ 10 ≤ t by omega]
      · have es : sOld σ (t + 1) = sOld σ t := by rw [sOld, if_neg (fun z => ha z.2)]
        rw [es]
        simp [s_91, aILoad, aRLoad, aLLoad, aIStore, aRStore, aPush, aBin, aBinL, aShL, aUn, aIf, aIc, aGet, aPut, aIald, aBald, aAald, aIast, aBast, aAast, aAlen, aCopy, aCallV, aCallC, aCallI, aRet, aCat, aMax, aMin, aDiv, aRem, aI2l, aL2i, aNul, aSwS, aSw, aInc, aDup, aDup2, aPop1, aIret, aAret, aVret, aLen, aFk, aFT, Value.category, c_sh, c_f h1, f_sh hf, f_p hf, f_tp hf (show t < 10 by omega), f_th hf (show t < 10 by omega), h.fi, h.th (show t < T by omega), g1, hi, ha, Int32.not_lt.mp ha, nI_1, toNat_nI (show t < 2 ^ 31 by omega), nI_lt0 (show t < 2 ^ 31 by omega), show ¬ 10 ≤ t by omega]
theorem r_old_loop {T : Nat} (hT : T ≤ 10) (h8 : I 114 8 = nI T) (hg : ∀ t, t < T → inR (I 114 (53 + 7 * t)) 9) : ∀ k t, t + k = T →
    aGo (aCall aMt (d + 2)) none cd_195 0 4 [some (.ref 113), some (.int (sOld (I 114) t).1), some (.int (nI t))] [] (HH I x y) = aGo (aCall aMt (d + 2)) none cd_195 0 55 [some (.ref 113), some (.int (sOld (I 114) T).1), some (.int (nI T))] [] (HH I x y) := by
  intro k
  induction k with
  | zero =>
    intro t ht
    obtain rfl : t = T := by omega
    rw [s_195_4]
    simp [s_195, aILoad, aRLoad, aLLoad, aIStore, aRStore, aPush, aBin, aBinL, aShL, aUn, aIf, aIc, aGet, aPut, aIald, aBald, aAald, aIast, aBast, aAast, aAlen, aCopy, aCallV, aCallC, aCallI, aRet, aCat, aMax, aMin, aDiv, aRem, aI2l, aL2i, aNul, aSwS, aSw, aInc, aDup, aDup2, aPop1, aIret, aAret, aVret, aLen, aFk, aFT, Value.category, m_sh, m_p, h8]
  | succ k ih =>
    intro t ht
    have g1 : ¬ nI T ≤ nI t := nI_ge (by omega) (by omega)
    have g := ih (t + 1) (by omega)
    have a3 : 50 + 7 * t + 3 = 53 + 7 * t := by omega
    rw [s_195_4, ← g]
    by_cases hi : I 114 (55 + 7 * t) = 1
    · rcases sOld_c (I 114) t with hc | ⟨u, hu, hc⟩
      · have ha : (-1 : Int32) < I 114 (53 + 7 * t) := by
          obtain ⟨n, hn, e⟩ := hg t (by omega)
          rw [e]
          exact Int32.not_le.mp fun z => absurd (Int32.le_trans (nI_pos' (n := n) (by omega)) z) (by decide)
        have es : sOld (I 114) (t + 1) = (nI t, I 114 (53 + 7 * t)) := by rw [sOld, hc, if_pos ⟨by simp [sTh, hi], ha⟩]
        rw [es, hc]
        simp [s_195, aILoad, aRLoad, aLLoad, aIStore, aRStore, aPush, aBin, aBinL, aShL, aUn, aIf, aIc, aGet, aPut, aIald, aBald, aAald, aIast, aBast, aAast, aAlen, aCopy, aCallV, aCallC, aCallI, aRet, aCat, aMax, aMin, aDiv, aRem, aI2l, aL2i, aNul, aSwS, aSw, aInc, aDup, aDup2, aPop1, aIret, aAret, aVret, aLen, aFk, aFT, Value.category, m_sh, m_p, h8, g1, r_isThere (show t < 10 by omega), hi, nI_1]
      · have hne : ¬ nI u = -1 := fun z => absurd (z ▸ nI_pos' (n := u) (by omega)) (by decide)
        have b3 : 50 + 7 * u + 3 = 53 + 7 * u := by omega
        by_cases ha : I 114 (53 + 7 * u) < I 114 (53 + 7 * t)
        · have es : sOld (I 114) (t + 1) = (nI t, I 114 (53 + 7 * t)) := by rw [sOld, hc, if_pos ⟨by simp [sTh, hi], ha⟩]
          rw [es, hc]
          simp [s_195, aILoad, aRLoad, aLLoad, aIStore, aRStore, aPush, aBin, aBinL, aShL, aUn, aIf, aIc, aGet, aPut, aIald, aBald, aAald, aIast, aBast, aAast, aAlen, aCopy, aCallV, aCallC, aCallI, aRet, aCat, aMax, aMin, aDiv, aRem, aI2l, aL2i, aNul, aSwS, aSw, aInc, aDup, aDup2, aPop1, aIret, aAret, aVret, aLen, aFk, aFT, Value.category, m_sh, m_p, h8, g1, r_isThere (show t < 10 by omega), r_of (show t < 10 by omega), r_of (show u < 10 by omega), hi, hne, a3, b3, ha, Int32.not_le.mpr ha, nI_1]
        · have es : sOld (I 114) (t + 1) = (nI u, I 114 (53 + 7 * u)) := by rw [sOld, hc, if_neg (fun z => ha z.2)]
          rw [es, hc]
          simp [s_195, aILoad, aRLoad, aLLoad, aIStore, aRStore, aPush, aBin, aBinL, aShL, aUn, aIf, aIc, aGet, aPut, aIald, aBald, aAald, aIast, aBast, aAast, aAlen, aCopy, aCallV, aCallC, aCallI, aRet, aCat, aMax, aMin, aDiv, aRem, aI2l, aL2i, aNul, aSwS, aSw, aInc, aDup, aDup2, aPop1, aIret, aAret, aVret, aLen, aFk, aFT, Value.category, m_sh, m_p, h8, g1, r_isThere (show t < 10 by omega), r_of (show t < 10 by omega), r_of (show u < 10 by omega), hi, hne, a3, b3, ha, Int32.not_lt.mp ha, nI_1]
    · have es : sOld (I 114) (t + 1) = sOld (I 114) t := by rw [sOld, if_neg (by simp [sTh, hi])]
      rw [es]
      simp [s_195, aILoad, aRLoad, aLLoad, aIStore, aRStore, aPush, aBin, aBinL, aShL, aUn, aIf, aIc, aGet, aPut, aIald, aBald, aAald, aIast, aBast, aAast, aAlen, aCopy, aCallV, aCallC, aCallI, aRet, aCat, aMax, aMin, aDiv, aRem, aI2l, aL2i, aNul, aSwS, aSw, aInc, aDup, aDup2, aPop1, aIret, aAret, aVret, aLen, aFk, aFT, Value.category, m_sh, m_p, h8, g1, r_isThere (show t < 10 by omega), hi, nI_1]
theorem pair_oldest : Pair 91 195 [] := by
  intro d I x y h
  obtain ⟨f, P, T, h1, hf, hA⟩ := h.f
  have hP := hA.1.1
  have e8 := hA.1.fi.2.2.2.1
  have kl := k_old_loop (d := d + 17) (x := x) (y := y) h1 hf hA.1 hA.2.2.th T 0 (by omega)
  have rl := fun (I' : Nat → Nat → Int32) (e : I' 114 = I 114) => r_old_loop (d := d + 17) (I := I') (x := x) (y := y) hP.2 (by rw [e]; exact e8) (fun t ht => by rw [e]; exact (hA.2.2.2.1 t ht).2.1) T 0 (by omega)
  rw [sOld, nI_lit0] at kl
  rcases sOld_c (I 114) T with hc | ⟨u, hu, hc⟩
  · refine Pair.ref 2 (-1000000002) h ?_ (fun I' hI => ?_)
    · rw [hc] at kl
      rw [e_91]; simp [s_91, aILoad, aRLoad, aLLoad, aIStore, aRStore, aPush, aBin, aBinL, aShL, aUn, aIf, aIc, aGet, aPut, aIald, aBald, aAald, aIast, aBast, aAast, aAlen, aCopy, aCallV, aCallC, aCallI, aRet, aCat, aMax, aMin, aDiv, aRem, aI2l, aL2i, aNul, aSwS, aSw, aInc, aDup, aDup2, aPop1, aIret, aAret, aVret, aLen, aFk, aFT, Value.category, c_sh, kl, rf_2]
    · have e := hI 114 (by decide)
      have rl := rl I' e
      rw [e, hc, sOld, nI_lit0] at rl
      rw [e_195]; simp [s_195, aILoad, aRLoad, aLLoad, aIStore, aRStore, aPush, aBin, aBinL, aShL, aUn, aIf, aIc, aGet, aPut, aIald, aBald, aAald, aIast, aBast, aAast, aAlen, aCopy, aCallV, aCallC, aCallI, aRet, aCat, aMax, aMin, aDiv, aRem, aI2l, aL2i, aNul, aSwS, aSw, aInc, aDup, aDup2, aPop1, aIret, aAret, aVret, aLen, aFk, aFT, Value.category, m_sh, rl, re_2]
  · have hne : ¬ nI u = -1 := fun z => absurd (z ▸ nI_pos' (n := u) (by omega)) (by decide)
    refine Pair.id (v := nI u) h ?_ ?_
    · rw [hc] at kl
      rw [e_91]; simp [s_91, aILoad, aRLoad, aLLoad, aIStore, aRStore, aPush, aBin, aBinL, aShL, aUn, aIf, aIc, aGet, aPut, aIald, aBald, aAald, aIast, aBast, aAast, aAlen, aCopy, aCallV, aCallC, aCallI, aRet, aCat, aMax, aMin, aDiv, aRem, aI2l, aL2i, aNul, aSwS, aSw, aInc, aDup, aDup2, aPop1, aIret, aAret, aVret, aLen, aFk, aFT, Value.category, kl, hne]
    · have rl := rl I rfl
      rw [hc, sOld, nI_lit0] at rl
      rw [e_195]; simp [s_195, aILoad, aRLoad, aLLoad, aIStore, aRStore, aPush, aBin, aBinL, aShL, aUn, aIf, aIc, aGet, aPut, aIald, aBald, aAald, aIast, aBast, aAast, aAlen, aCopy, aCallV, aCallC, aCallI, aRet, aCat, aMax, aMin, aDiv, aRem, aI2l, aL2i, aNul, aSwS, aSw, aInc, aDup, aDup2, aPop1, aIret, aAret, aVret, aLen, aFk, aFT, Value.category, rl, hne]
end PAIR11
