/-! the calls in pairs: judge -/
section PAIR16
variable {d : Nat} {I : Nat → Nat → Int32} {x y : Option Nat}
theorem k_jud_loop {f P T a s M : Nat} {v : Int32} {I0 : Nat → Nat → Int32} {σ N : Nat → Int32} (h1 : f = 63) (hf : isF f) (hs : s < 4) (ha : a ≤ 24) (q3 : I0 (105 + 2 * s) 2 = nI a) (q5 : ∀ j, j < 24 → I0 (106 + 2 * s) j = N j) (hw : ∀ n, wfS (sRun σ n) P T) (hM : M = a ∨ M < a ∧ ¬ (sDrawn (sRun σ M)).1 = N M) (hlt : ∀ j, j < M → j < a ∧ (sDrawn (sRun σ j)).1 = N j) : ∀ k m (I : Nat → Nat → Int32), m + k = M → relF f I (sRun σ m) P T → KG f I0 I →
    ∃ I1, aGo (aCall aMt (d + 7)) none cd_98 0 45 [some (.ref 0), some (.int v), some (.ref (105 + 2 * s)), some (.int (nI m))] [] (HH I x y) = some (some (.int (nI M)), HH I1 x y) ∧ kF f I1 ∧ KG f I0 I1 := by
  intro k
  induction k with
  | zero =>
    intro m I hm hr hk
    obtain rfl : m = M := by omega
    have e5 : I (105 + 2 * s) = I0 (105 + 2 * s) := hk _ (by omega)
    rw [s_98_45]
    rcases hM with rfl | ⟨c1, c2⟩
    · refine ⟨I, ?_, hr.k, hk⟩
      simp [s_98, aILoad, aRLoad, aLLoad, aIStore, aRStore, aPush, aBin, aBinL, aShL, aUn, aIf, aIc, aGet, aPut, aIald, aBald, aAald, aIast, aBast, aAast, aAlen, aCopy, aCallV, aCallC, aCallI, aRet, aCat, aMax, aMin, aDiv, aRem, aI2l, aL2i, aNul, aSwS, aSw, aInc, aDup, aDup2, aPop1, aIret, aAret, aVret, aLen, aFk, aFT, Value.category, sh_sh hs, e5, q3]
    · have g1 : ¬ nI a ≤ nI m := nI_ge c1 (by omega)
      obtain ⟨I2, p1, p2, p3⟩ := k_hourBy (d := d) (x := x) (y := y) hf hr (hw m)
      have hk2 := hk.trans p3.1
      have e5' : I2 (105 + 2 * s) = I0 (105 + 2 * s) := hk2 _ (by omega)
      have e6 : I2 (106 + 2 * s) = I0 (106 + 2 * s) := hk2 _ (by omega)
      refine ⟨I2, ?_, p2.k, hk2⟩
      simp [s_98, aILoad, aRLoad, aLLoad, aIStore, aRStore, aPush, aBin, aBinL, aShL, aUn, aIf, aIc, aGet, aPut, aIald, aBald, aAald, aIast, aBast, aAast, aAlen, aCopy, aCallV, aCallC, aCallI, aRet, aCat, aMax, aMin, aDiv, aRem, aI2l, aL2i, aNul, aSwS, aSw, aInc, aDup, aDup2, aPop1, aIret, aAret, aVret, aLen, aFk, aFT, Value.category, c_sh, c_h h1, f_sh hf, sh_sh hs, sh_p hs, e5, e6, q3, g1, p1, q5 m (by omega), c2, toNat_nI (show m < 2 ^ 31 by omega), nI_lt0 (show m < 2 ^ 31 by omega), show ¬ 24 ≤ m by omega]
  | succ k ih =>
    intro m I hm hr hk
    obtain ⟨c1, c2⟩ := hlt m (by omega)
    have e5 : I (105 + 2 * s) = I0 (105 + 2 * s) := hk _ (by omega)
    have g1 : ¬ nI a ≤ nI m := nI_ge c1 (by omega)
    obtain ⟨I2, p1, p2, p3⟩ := k_hourBy (d := d) (x := x) (y := y) hf hr (hw m)
    have hk2 := hk.trans p3.1
    have e6 : I2 (106 + 2 * s) = I0 (106 + 2 * s) := hk2 _ (by omega)
    obtain ⟨I1, r1, r2⟩ := ih (m + 1) I2 (by omega) p2 hk2
    refine ⟨I1, ?_, r2⟩
    rw [s_98_45, ← r1]
    simp [s_98, aILoad, aRLoad, aLLoad, aIStore, aRStore, aPush, aBin, aBinL, aShL, aUn, aIf, aIc, aGet, aPut, aIald, aBald, aAald, aIast, aBast, aAast, aAlen, aCopy, aCallV, aCallC, aCallI, aRet, aCat, aMax, aMin, aDiv, aRem, aI2l, aL2i, aNul, aSwS, aSw, aInc, aDup, aDup2, aPop1, aIret, aAret, aVret, aLen, aFk, aFT, Value.category, c_sh, c_h h1, f_sh hf, sh_sh hs, sh_p hs, e5, e6, q3, g1, p1, q5 m (by omega), c2, toNat_nI (show m < 2 ^ 31 by omega), nI_lt0 (show m < 2 ^ 31 by omega), show ¬ 24 ≤ m by omega, nI_1]
theorem r_jud_loop {P T a s M : Nat} {w : Int32} {I0 : Nat → Nat → Int32} {N : Nat → Int32} (hs : s < 4) (ha : a ≤ 24) (hP : P ≤ 8) (hT : T ≤ 10) (q4 : I0 125 s = nI a) (q5 : ∀ j, j < 24 → I0 126 (24 * s + j) = N j) (hw : ∀ n, wfS (sRun (I0 114) n) P T) (h7 : ∀ n, sRun (I0 114) n 7 = nI P) (h8 : ∀ n, sRun (I0 114) n 8 = nI T) (hhi : ∀ n j, 120 ≤ j → sRun (I0 114) n j = I0 114 j) (hM : M = a ∨ M < a ∧ ¬ (sDrawn (sRun (I0 114) M)).1 = N M) (hlt : ∀ j, j < M → j < a ∧ (sDrawn (sRun (I0 114) j)).1 = N j) : ∀ k m (I : Nat → Nat → Int32), m + k = M → I 114 = sRun (I0 114) m → RG I0 I →
    ∃ I1, aGo (aCall aMt (d + 10)) none cd_212 0 28 [some (.ref 113), some (.int (nI s)), some (.int w), some (.int (nI m)), some (.int 1), some (.int (nI m))] [] (HH I x y) = some (some (.int (nI M)), HH (aCpy I1 116 114 0 0 120) x y) ∧ RG I0 I1 ∧ ∀ j, 120 ≤ j → I1 114 j = I0 114 j := by
  have ix : ∀ m, (24 : Int32) * nI s + nI m = nI (24 * s + m) := fun m => by rw [show (24 : Int32) = nI 24 from rfl, pk_mul, nI_add]
  have ts := toNat_nI (show s < 2 ^ 31 by omega)
  have ns := nI_lt0 (show s < 2 ^ 31 by omega)
  have l4 : ¬ 4 ≤ s := by omega
  intro k
  induction k with
  | zero =>
    intro m I hm hr hk
    obtain rfl : m = M := by omega
    have e5 : I 125 = I0 125 := hk _ (by omega) (by omega) (by omega)
    rw [s_212_28]
    rcases hM with rfl | ⟨c1, c2⟩
    · refine ⟨I, ?_, hk, fun j hj => by rw [hr]; exact hhi _ j hj⟩
      simp [s_212, aILoad, aRLoad, aLLoad, aIStore, aRStore, aPush, aBin, aBinL, aShL, aUn, aIf, aIc, aGet, aPut, aIald, aBald, aAald, aIast, aBast, aAast, aAlen, aCopy, aCallV, aCallC, aCallI, aRet, aCat, aMax, aMin, aDiv, aRem, aI2l, aL2i, aNul, aSwS, aSw, aInc, aDup, aDup2, aPop1, aIret, aAret, aVret, aLen, aFk, aFT, Value.category, m_sh, m_p, e5, q4, ts, ns, l4, r_layBack]
    · have g1 : ¬ nI a ≤ nI m := nI_ge c1 (by omega)
      obtain ⟨I2, p1, p2, p3⟩ := r_drawnHour (d := d) (x := x) (y := y) (I := I) hP hT (by rw [hr]; exact h7 m) (by rw [hr]; exact h8 m) (by rw [hr]; exact (hw m).ok) (by rw [hr]; exact (hw m).own hP)
      have hk2 := hk.trans p3
      have e5' : I2 125 = I0 125 := hk2 _ (by omega) (by omega) (by omega)
      have e6 : I2 126 = I0 126 := hk2 _ (by omega) (by omega) (by omega)
      rw [hr] at p1
      refine ⟨I2, ?_, hk2, fun j hj => by rw [p2, hr]; exact hhi (m + 1) j hj⟩
      by_cases c3 : m + 1 < a
      · have g2 : ¬ nI a ≤ nI (m + 1) := nI_ge c3 (by omega)
        simp [s_212, s_212_28, aILoad, aRLoad, aLLoad, aIStore, aRStore, aPush, aBin, aBinL, aShL, aUn, aIf, aIc, aGet, aPut, aIald, aBald, aAald, aIast, aBast, aAast, aAlen, aCopy, aCallV, aCallC, aCallI, aRet, aCat, aMax, aMin, aDiv, aRem, aI2l, aL2i, aNul, aSwS, aSw, aInc, aDup, aDup2, aPop1, aIret, aAret, aVret, aLen, aFk, aFT, Value.category, m_sh, m_p, e5, e5', q4, ts, ns, l4, g1, g2, p1, e6, ix, q5 m (by omega), c2, toNat_nI (show 24 * s + m < 2 ^ 31 by omega), nI_lt0 (show 24 * s + m < 2 ^ 31 by omega), show ¬ 96 ≤ 24 * s + m by omega, nI_1, r_layBack]
      · have g2 : nI a ≤ nI (m + 1) := nI_le (by omega) (by omega)
        simp [s_212, s_212_28, aILoad, aRLoad, aLLoad, aIStore, aRStore, aPush, aBin, aBinL, aShL, aUn, aIf, aIc, aGet, aPut, aIald, aBald, aAald, aIast, aBast, aAast, aAlen, aCopy, aCallV, aCallC, aCallI, aRet, aCat, aMax, aMin, aDiv, aRem, aI2l, aL2i, aNul, aSwS, aSw, aInc, aDup, aDup2, aPop1, aIret, aAret, aVret, aLen, aFk, aFT, Value.category, m_sh, m_p, e5, e5', q4, ts, ns, l4, g1, g2, p1, e6, ix, q5 m (by omega), c2, toNat_nI (show 24 * s + m < 2 ^ 31 by omega), nI_lt0 (show 24 * s + m < 2 ^ 31 by omega), show ¬ 96 ≤ 24 * s + m by omega, nI_1, r_layBack]
  | succ k ih =>
    intro m I hm hr hk
    have e5 : I 125 = I0 125 := hk _ (by omega) (by omega) (by omega)
    obtain ⟨c1, c2⟩ := hlt m (by omega)
    have g1 : ¬ nI a ≤ nI m := nI_ge c1 (by omega)
    obtain ⟨I2, p1, p2, p3⟩ := r_drawnHour (d := d) (x := x) (y := y) (I := I) hP hT (by rw [hr]; exact h7 m) (by rw [hr]; exact h8 m) (by rw [hr]; exact (hw m).ok) (by rw [hr]; exact (hw m).own hP)
    have hk2 := hk.trans p3
    have e6 : I2 126 = I0 126 := hk2 _ (by omega) (by omega) (by omega)
    obtain ⟨I1, r1, r2⟩ := ih (m + 1) I2 (by omega) (by rw [p2, hr]; rfl) hk2
    rw [hr] at p1
    refine ⟨I1, ?_, r2⟩
    rw [s_212_28, ← r1]
    simp [s_212, aILoad, aRLoad, aLLoad, aIStore, aRStore, aPush, aBin, aBinL, aShL, aUn, aIf, aIc, aGet, aPut, aIald, aBald, aAald, aIast, aBast, aAast, aAlen, aCopy, aCallV, aCallC, aCallI, aRet, aCat, aMax, aMin, aDiv, aRem, aI2l, aL2i, aNul, aSwS, aSw, aInc, aDup, aDup2, aPop1, aIret, aAret, aVret, aLen, aFk, aFT, Value.category, m_sh, m_p, e5, q4, ts, ns, l4, g1, p1, e6, ix, q5 m (by omega), c2, toNat_nI (show 24 * s + m < 2 ^ 31 by omega), nI_lt0 (show 24 * s + m < 2 ^ 31 by omega), show ¬ 96 ≤ 24 * s + m by omega, nI_1]
theorem pair_judge (v : Int32) : Pair 98 212 [.int v] := by
  intro d I x y h
  obtain ⟨f, P, T, h1, hf, hA⟩ := h.f
  obtain ⟨g, hg1⟩ : ∃ g, g = 63 := ⟨63, rfl⟩
  have hg := isF_63 hg1
  have hP := hA.1.1
  have e7 := hA.1.fi.2.2.1
  have e8 := hA.1.fi.2.2.2.1
  have hS := h.2.2.2.2.1
  by_cases hv : 0 ≤ v ∧ v ≤ 3
  · obtain ⟨s, hs3, rfl⟩ := in_0n (n := 3) rfl (by omega) hv
    have hs : s < 4 := by omega
    have sa := k_sheetAt (d := d + 17) (x := x) (y := y) (I := I) hs
    have km := k_missing (d := d + 18) (x := x) (y := y) (I := I) hs
    have ts := toNat_nI (show s < 2 ^ 31 by omega)
    obtain ⟨q1, q2, ⟨a, ha, q3, q4⟩, q5⟩ := hS s hs
    by_cases h0 : I 124 s = 0
    · have c0 : I (105 + 2 * s) 1 = 0 := q1.trans h0
      refine Pair.ref 2 (-1000000002) h ?_ (fun I' hI => ?_)
      · rw [e_98]; simp [s_98, aILoad, aRLoad, aLLoad, aIStore, aRStore, aPush, aBin, aBinL, aShL, aUn, aIf, aIc, aGet, aPut, aIald, aBald, aAald, aIast, aBast, aAast, aAlen, aCopy, aCallV, aCallC, aCallI, aRet, aCat, aMax, aMin, aDiv, aRem, aI2l, aL2i, aNul, aSwS, aSw, aInc, aDup, aDup2, aPop1, aIret, aAret, aVret, aLen, aFk, aFT, Value.category, c_sh, sa, sh_sh hs, km, c0, rf_2]
      · have h0' : I' 124 s = 0 := by rw [hI 124 (by decide)]; exact h0
        rw [e_212]; simp [s_212, aILoad, aRLoad, aLLoad, aIStore, aRStore, aPush, aBin, aBinL, aShL, aUn, aIf, aIc, aGet, aPut, aIald, aBald, aAald, aIast, aBast, aAast, aAlen, aCopy, aCallV, aCallC, aCallI, aRet, aCat, aMax, aMin, aDiv, aRem, aI2l, aL2i, aNul, aSwS, aSw, aInc, aDup, aDup2, aPop1, aIret, aAret, aVret, aLen, aFk, aFT, Value.category, m_sh, m_p, r_lacks, hv, ts, h0', re_2]
    · have c0 : ¬ I (105 + 2 * s) 1 = 0 := fun z => h0 (q1.symm.trans z)
      have ok := sRun_ok hA.2.2 e7 e8 hP.1 hP.2
      obtain ⟨M, hM, hlt⟩ := pk_least (fun m => ¬ (m < a ∧ (sDrawn (sRun (I 114) m)).1 = I 126 (24 * s + m))) ⟨a, fun z => by omega⟩
      have hMa : M ≤ a := Nat.not_lt.mp fun z => hlt a z (fun q => by omega)
      have hlt' : ∀ j, j < M → j < a ∧ (sDrawn (sRun (I 114) j)).1 = I 126 (24 * s + j) := fun j hj => Classical.byContradiction (hlt j hj)
      have hM' : M = a ∨ M < a ∧ ¬ (sDrawn (sRun (I 114) M)).1 = I 126 (24 * s + M) := by
        by_cases e : M = a
        · exact Or.inl e
        · exact Or.inr ⟨by omega, fun z => hM ⟨by omega, z⟩⟩
      obtain ⟨I1, c1, c2, c3⟩ := hA.cp (d := d + 17) (x := x) (y := y) hg hf (by omega) (by rw [hg1]; exact h.2.2.1)
      obtain ⟨I2, k1, k2, k3⟩ := k_jud_loop (d := d + 12) (x := x) (y := y) (P := P) (T := T) (a := a) (s := s) (M := M) (v := nI s) (I0 := I1) (σ := I 114) (N := fun j => I 126 (24 * s + j)) hg1 hg hs ha (by rw [c3 _ (by omega)]; exact q3) (fun j hj => by rw [c3 _ (by omega)]; exact q5 j hj) (fun n => (ok n).1) hM' hlt' M 0 I1 (by omega) c2.1 KG.rf
      have er : ∀ r, r < 63 ∨ 93 < r → I2 r = I r := fun r hr => by rw [k3 r (by omega), c3 r (by omega)]
      have el : ∀ r, r ≠ 116 → 93 < r → aCpy I2 114 116 0 0 120 r = I r := fun r a b => by rw [cpy_ne a, er r (by omega)]
      obtain ⟨I3, r1, r3, r4⟩ := r_jud_loop (d := d + 9) (x := x) (y := y) (P := P) (T := T) (a := a) (s := s) (M := M) (w := 0) (I0 := aCpy I2 114 116 0 0 120) (N := fun j => I 126 (24 * s + j)) hs ha hP.1 hP.2 (by rw [el 125 (by omega) (by omega)]; exact q4) (fun j hj => by rw [el 126 (by omega) (by omega)]) (fun n => by rw [el 114 (by omega) (by omega)]; exact (ok n).1) (fun n => by rw [el 114 (by omega) (by omega)]; exact (ok n).2.1) (fun n => by rw [el 114 (by omega) (by omega)]; exact (ok n).2.2.1) (fun n j hj => by rw [el 114 (by omega) (by omega)]; exact (ok n).2.2.2 j (by omega)) (by rw [el 114 (by omega) (by omega)]; exact hM') (by rw [el 114 (by omega) (by omega)]; exact hlt') M 0 _ (by omega) rfl RG.rf
      rw [nI_lit0] at k1 r1
      have lb : aCpy I3 116 114 0 0 120 114 = I 114 := lay_back (fun j hj => by rw [r3 116 (by omega) (by omega) (by omega), cpy_row hj, er 114 (by omega)]) (fun j hj => by rw [r4 j hj, el 114 (by omega) (by omega)])
      have hj : ∀ r, r ≠ 114 → r ≠ 116 → r ≠ 119 → r ≠ 120 → aCpy I3 116 114 0 0 120 r = I2 r := fun r a b c e => by rw [cpy_ne a, r3 r a c e, cpy_ne b]
      refine Pair.tho (v := nI M) h ?_ ?_ er (by rwa [hg1] at k2) lb hj
      · rw [e_98, ← k1]; simp [s_98, aILoad, aRLoad, aLLoad, aIStore, aRStore, aPush, aBin, aBinL, aShL, aUn, aIf, aIc, aGet, aPut, aIald, aBald, aAald, aIast, aBast, aAast, aAlen, aCopy, aCallV, aCallC, aCallI, aRet, aCat, aMax, aMin, aDiv, aRem, aI2l, aL2i, aNul, aSwS, aSw, aInc, aDup, aDup2, aPop1, aIret, aAret, aVret, aLen, aFk, aFT, Value.category, c_sh, c_f h1, c_h hg1, f_sh hf, f_sh hg, sa, sh_sh hs, km, c0, c1]
      · have h0' : ¬ I2 124 s = 0 := by rw [er 124 (by omega)]; exact h0
        rw [e_212, ← r1]; simp [s_212, aILoad, aRLoad, aLLoad, aIStore, aRStore, aPush, aBin, aBinL, aShL, aUn, aIf, aIc, aGet, aPut, aIald, aBald, aAald, aIast, aBast, aAast, aAlen, aCopy, aCallV, aCallC, aCallI, aRet, aCat, aMax, aMin, aDiv, aRem, aI2l, aL2i, aNul, aSwS, aSw, aInc, aDup, aDup2, aPop1, aIret, aAret, aVret, aLen, aFk, aFT, Value.category, m_sh, m_p, r_lacks, hv, ts, h0', r_layDown]
  · have sa := k_sheetNo (d := d + 17) (x := x) (y := y) (I := I) hv
    refine Pair.ref 1 (-1000000001) h ?_ (fun I' hI => ?_)
    · rw [e_98]; simp [s_98, aILoad, aRLoad, aLLoad, aIStore, aRStore, aPush, aBin, aBinL, aShL, aUn, aIf, aIc, aGet, aPut, aIald, aBald, aAald, aIast, aBast, aAast, aAlen, aCopy, aCallV, aCallC, aCallI, aRet, aCat, aMax, aMin, aDiv, aRem, aI2l, aL2i, aNul, aSwS, aSw, aInc, aDup, aDup2, aPop1, aIret, aAret, aVret, aLen, aFk, aFT, Value.category, c_sh, sa, rf_1]
    · rw [e_212]; simp [s_212, aILoad, aRLoad, aLLoad, aIStore, aRStore, aPush, aBin, aBinL, aShL, aUn, aIf, aIc, aGet, aPut, aIald, aBald, aAald, aIast, aBast, aAast, aAlen, aCopy, aCallV, aCallC, aCallI, aRet, aCat, aMax, aMin, aDiv, aRem, aI2l, aL2i, aNul, aSwS, aSw, aInc, aDup, aDup2, aPop1, aIret, aAret, aVret, aLen, aFk, aFT, Value.category, m_sh, m_p, r_lacks, hv, re_1]
end PAIR16
