/-! the calls in pairs: comes, friday -/
theorem relA.mut {f P T : Nat} {I I1 : Nat → Nat → Int32} {σ σ1 : Nat → Int32} (h : relA f I σ P T) (hk : KH f I I1) (hF : relF f I1 σ1 P T) (hs : ∀ k, k = 5 ∨ k = 6 ∨ 370 ≤ k → σ1 k = σ k) (hw : wfS σ1 P T) : relA f I1 σ1 P T :=
  ⟨hF, h.2.1.cg hk.2.1 hk.2.2.1 hk.2.2.2.1 hk.2.2.2.2 hs, hw⟩
theorem sTaken_hi {σ : Nat → Int32} {p t P T k : Nat} (h : wfS σ P T) (hP : P ≤ 8) (hT : T ≤ 10) (hp : p < P) (ht : t < T) (hk : 120 ≤ k) : sTaken σ p t k = σ k := by
  obtain ⟨q, hq, e⟩ := (h.2.1 t ht).1
  unfold sTaken sMore
  rw [e, toNat_nI (by omega)]
  split
  · rw [upd_ne (by omega), upd_ne (by omega), upd_ne (by omega)]
  · split
    · rw [upd_ne (by omega), upd_ne (by omega), upd_ne (by omega), upd_ne (by omega)]
    · rw [upd_ne (by omega), upd_ne (by omega), upd_ne (by omega), upd_ne (by omega), upd_ne (by omega)]
theorem sComes_hi {σ : Nat → Int32} {p P T k : Nat} {s : Int32} (h : wfS σ P T) (h8 : σ 8 = nI T) (hP : P ≤ 8) (hT : T ≤ 10) (hp : p < P) (hk : 120 ≤ k) : (sComes σ p s).2 k = σ k := by
  unfold sComes
  rcases sWant_c (σ := σ) (p := p) (s := s) h8 hT with hc | ⟨t, ht, hc⟩
  · rw [if_pos hc]
  · have hne : ¬ nI t = -1 := fun z => absurd (z ▸ nI_pos' (n := t) (by omega)) (by decide)
    rw [hc, if_neg hne, toNat_nI (by omega)]; exact sTaken_hi h hP hT hp ht hk
theorem wfS.own {σ : Nat → Int32} {P T : Nat} (h : wfS σ P T) (hP : P ≤ 8) : ∀ t, t < T → ∃ q, q < 8 ∧ σ (50 + 7 * t) = nI q := fun t ht => by
  obtain ⟨q, hq, e⟩ := (h.2.1 t ht).1
  exact ⟨q, by omega, e⟩
section PAIR9
theorem pair_comes (v s : Int32) : Pair 79 178 [.int v, .int s] := by
  intro d I x y h
  obtain ⟨f, P, T, h1, hf, hA⟩ := h.f
  have hP := hA.1.1
  have e7 := hA.1.fi.2.2.1
  have e8 := hA.1.fi.2.2.2.1
  by_cases hp : 0 ≤ v ∧ v ≤ nI P - 1
  · obtain ⟨p, hpP, rfl⟩ := (isIx (by omega)).mp hp
    have pa := k_personAt (d := d + 17) (x := x) (y := y) hf hA.1 hpP
    by_cases hs : 0 ≤ s ∧ s ≤ 1
    · obtain ⟨I1, k1, k2, k3⟩ := k_taken (d := d + 13) (x := x) (y := y) (s := s) hf hA.1 hA.2.2 hpP
      have e114 : I1 114 = I 114 := k3.1 114 (by omega)
      obtain ⟨I2, r1, r2, r3⟩ := r_comes (d := d + 10) (x := x) (y := y) (I := I1) (p := p) (s := s) (by omega) hP.2 (by rw [e114]; exact e8) (by rw [e114]; exact hA.2.2.ok) (by rw [e114]; exact hA.2.2.own hP.1)
      rw [e114] at r1 r2
      refine Pair.now (v := (sComes (I 114) p s).1) (P := P) (T := T) h h1 (I1 := I1) (I2 := I2) ?_ ?_ k3.1 r3 ?_
      · rw [e_79]; simp [s_79, aILoad, aRLoad, aLLoad, aIStore, aRStore, aPush, aBin, aBinL, aShL, aUn, aIf, aIc, aGet, aPut, aIald, aBald, aAald, aIast, aBast, aAast, aAlen, aCopy, aCallV, aCallC, aCallI, aRet, aCat, aMax, aMin, aDiv, aRem, aI2l, aL2i, aNul, aSwS, aSw, aInc, aDup, aDup2, aPop1, aIret, aAret, aVret, aLen, aFk, aFT, Value.category, c_sh, c_f h1, f_sh hf, f_pe hf (show p < 8 by omega), pa, k_isIn, hs, k1]
      · rw [e_178]; simp [s_178, aILoad, aRLoad, aLLoad, aIStore, aRStore, aPush, aBin, aBinL, aShL, aUn, aIf, aIc, aGet, aPut, aIald, aBald, aAald, aIast, aBast, aAast, aAlen, aCopy, aCallV, aCallC, aCallI, aRet, aCat, aMax, aMin, aDiv, aRem, aI2l, aL2i, aNul, aSwS, aSw, aInc, aDup, aDup2, aPop1, aIret, aAret, aVret, aLen, aFk, aFT, Value.category, m_sh, m_p, r_isPerson, e114, e7, hp, r_in, hs, r1]
      · rw [r2]
        exact hA.mut k3 k2 (fun k hk => by
          rcases hk with z | z | z
          · exact sComes_lo (by omega)
          · exact sComes_lo (by omega)
          · exact sComes_hi hA.2.2 e8 hP.1 hP.2 hpP (by omega)) (hA.2.2.comes e8 hP.1 hP.2 hpP)
    · refine Pair.ref 1 (-1000000001) h ?_ (fun I' hI => ?_)
      · rw [e_79]; simp [s_79, aILoad, aRLoad, aLLoad, aIStore, aRStore, aPush, aBin, aBinL, aShL, aUn, aIf, aIc, aGet, aPut, aIald, aBald, aAald, aIast, aBast, aAast, aAlen, aCopy, aCallV, aCallC, aCallI, aRet, aCat, aMax, aMin, aDiv, aRem, aI2l, aL2i, aNul, aSwS, aSw, aInc, aDup, aDup2, aPop1, aIret, aAret, aVret, aLen, aFk, aFT, Value.category, c_sh, c_f h1, f_sh hf, pa, k_isIn, hs, rf_1]
      · have e7' : I' 114 7 = nI P := by rw [hI 114 (by decide)]; exact e7
        rw [e_178]; simp [s_178, aILoad, aRLoad, aLLoad, aIStore, aRStore, aPush, aBin, aBinL, aShL, aUn, aIf, aIc, aGet, aPut, aIald, aBald, aAald, aIast, aBast, aAast, aAlen, aCopy, aCallV, aCallC, aCallI, aRet, aCat, aMax, aMin, aDiv, aRem, aI2l, aL2i, aNul, aSwS, aSw, aInc, aDup, aDup2, aPop1, aIret, aAret, aVret, aLen, aFk, aFT, Value.category, m_sh, m_p, r_isPerson, e7', hp, r_in, hs, re_1]
  · have pa := k_personNo (d := d + 17) (x := x) (y := y) hf hA.1 hp
    refine Pair.ref 1 (-1000000001) h ?_ (fun I' hI => ?_)
    · rw [e_79]; simp [s_79, aILoad, aRLoad, aLLoad, aIStore, aRStore, aPush, aBin, aBinL, aShL, aUn, aIf, aIc, aGet, aPut, aIald, aBald, aAald, aIast, aBast, aAast, aAlen, aCopy, aCallV, aCallC, aCallI, aRet, aCat, aMax, aMin, aDiv, aRem, aI2l, aL2i, aNul, aSwS, aSw, aInc, aDup, aDup2, aPop1, aIret, aAret, aVret, aLen, aFk, aFT, Value.category, c_sh, c_f h1, f_sh hf, pa, rf_1]
    · have e7' : I' 114 7 = nI P := by rw [hI 114 (by decide)]; exact e7
      rw [e_178]; simp [s_178, aILoad, aRLoad, aLLoad, aIStore, aRStore, aPush, aBin, aBinL, aShL, aUn, aIf, aIc, aGet, aPut, aIald, aBald, aAald, aIast, aBast, aAast, aAlen, aCopy, aCallV, aCallC, aCallI, aRet, aCat, aMax, aMin, aDiv, aRem, aI2l, aL2i, aNul, aSwS, aSw, aInc, aDup, aDup2, aPop1, aIret, aAret, aVret, aLen, aFk, aFT, Value.category, m_sh, m_p, r_isPerson, e7', hp, re_1]
end PAIR9
