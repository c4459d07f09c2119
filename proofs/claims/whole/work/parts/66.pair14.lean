/-! the calls in pairs: check, image, restore -/
section PAIR14
variable {d : Nat} {I : Nat → Nat → Int32} {x y : Option Nat}
theorem k_chk_loop {f P T W M : Nat} {v : Int32} {σ : Nat → Int32} (h1 : f = 1) (hf : isF f) (h : relF f I σ P T) (hW : W ≤ 24) (q : ∀ j, j < W → I (f + 12) j = σ (430 + j)) (hM : M = W ∧ v = 0 ∨ M < W ∧ ¬ (M < P ∧ σ (12 + 5 * M) = σ (430 + M)) ∧ v = nI (1 + M)) (hlt : ∀ j, j < M → j < W ∧ j < P ∧ σ (12 + 5 * j) = σ (430 + j)) : ∀ k m l, m + k = M →
    aGo (aCall aMt (d + 2)) none cd_102 0 18 [some (.ref 0), some (.int (nI W)), some (.int (nI m)), l] [] (HH I x y) = some (some (.int v), HH I x y) := by
  have hP := h.1
  intro k
  induction k with
  | zero =>
    intro m l hm
    obtain rfl : m = M := by omega
    rw [s_102_18]
    rcases hM with ⟨rfl, rfl⟩ | ⟨c1, c2, rfl⟩
    · simp [s_102, aILoad, aRLoad, aLLoad, aIStore, aRStore, aPush, aBin, aBinL, aShL, aUn, aIf, aIc, aGet, aPut, aIald, aBald, aAald, aIast, aBast, aAast, aAlen, aCopy, aCallV, aCallC, aCallI, aRet, aCat, aMax, aMin, aDiv, aRem, aI2l, aL2i, aNul, aSwS, aSw, aInc, aDup, aDup2, aPop1, aIret, aAret, aVret, aLen, aFk, aFT, Value.category]
    · have g1 : ¬ nI W ≤ nI m := nI_ge c1 (by omega)
      have g3 : (1 : Int32) + nI m = nI (1 + m) := nI_add 1 m
      by_cases c3 : m < P
      · have pa := k_personAt (d := d) (x := x) (y := y) hf h c3
        have c4 : ¬ σ (12 + 5 * m) = σ (430 + m) := fun z => c2 ⟨c3, z⟩
        simp [s_102, aILoad, aRLoad, aLLoad, aIStore, aRStore, aPush, aBin, aBinL, aShL, aUn, aIf, aIc, aGet, aPut, aIald, aBald, aAald, aIast, aBast, aAast, aAlen, aCopy, aCallV, aCallC, aCallI, aRet, aCat, aMax, aMin, aDiv, aRem, aI2l, aL2i, aNul, aSwS, aSw, aInc, aDup, aDup2, aPop1, aIret, aAret, aVret, aLen, aFk, aFT, Value.category, c_sh, c_f h1, f_sh hf, f_p hf, f_pe hf (show m < 8 by omega), h.pe c3, g1, pa, q m c1, c4, g3, toNat_nI (show m < 2 ^ 31 by omega), nI_lt0 (show m < 2 ^ 31 by omega), show ¬ 24 ≤ m by omega]
      · have pa := k_personNo (d := d) (x := x) (y := y) (v := nI m) hf h (fun z => by
          obtain ⟨p, hp, e⟩ := (isIx (by omega)).mp z
          have := (nI_eq (by omega) (by omega)).mp e
          omega)
        simp [s_102, aILoad, aRLoad, aLLoad, aIStore, aRStore, aPush, aBin, aBinL, aShL, aUn, aIf, aIc, aGet, aPut, aIald, aBald, aAald, aIast, aBast, aAast, aAlen, aCopy, aCallV, aCallC, aCallI, aRet, aCat, aMax, aMin, aDiv, aRem, aI2l, aL2i, aNul, aSwS, aSw, aInc, aDup, aDup2, aPop1, aIret, aAret, aVret, aLen, aFk, aFT, Value.category, c_sh, c_f h1, f_sh hf, g1, pa, g3]
  | succ k ih =>
    intro m l hm
    obtain ⟨c1, c3, c4⟩ := hlt m (by omega)
    have g1 : ¬ nI W ≤ nI m := nI_ge c1 (by omega)
    have pa := k_personAt (d := d) (x := x) (y := y) hf h c3
    have g := ih (m + 1) (some (.ref (f + 13 + m))) (by omega)
    rw [s_102_18, ← g]
    simp [s_102, aILoad, aRLoad, aLLoad, aIStore, aRStore, aPush, aBin, aBinL, aShL, aUn, aIf, aIc, aGet, aPut, aIald, aBald, aAald, aIast, aBast, aAast, aAlen, aCopy, aCallV, aCallC, aCallI, aRet, aCat, aMax, aMin, aDiv, aRem, aI2l, aL2i, aNul, aSwS, aSw, aInc, aDup, aDup2, aPop1, aIret, aAret, aVret, aLen, aFk, aFT, Value.category, c_sh, c_f h1, f_sh hf, f_p hf, f_pe hf (show m < 8 by omega), h.pe c3, g1, pa, q m c1, c4, toNat_nI (show m < 2 ^ 31 by omega), nI_lt0 (show m < 2 ^ 31 by omega), show ¬ 24 ≤ m by omega, nI_1]
theorem r_chk_loop {P W M : Nat} {v : Int32} (hP : P ≤ 8) (h7 : I 114 7 = nI P) (hW : W ≤ 24) (hM : M = W ∧ v = 0 ∨ M < W ∧ ¬ (M < P ∧ I 114 (12 + 5 * M) = I 114 (430 + M)) ∧ v = nI (1 + M)) (hlt : ∀ j, j < M → j < W ∧ j < P ∧ I 114 (12 + 5 * j) = I 114 (430 + j)) : ∀ k m, m + k = M →
    aGo (aCall aMt (d + 2)) none cd_216 0 18 [some (.ref 113), some (.int (nI W)), some (.int (nI m))] [] (HH I x y) = some (some (.int v), HH I x y) := by
  have ix : ∀ m, (430 : Int32) + nI m = nI (430 + m) := fun m => nI_add 430 m
  intro k
  induction k with
  | zero =>
    intro m hm
    obtain rfl : m = M := by omega
    rw [s_216_18]
    rcases hM with ⟨rfl, rfl⟩ | ⟨c1, c2, rfl⟩
    · simp [s_216, aILoad, aRLoad, aLLoad, aIStore, aRStore, aPush, aBin, aBinL, aShL, aUn, aIf, aIc, aGet, aPut, aIald, aBald, aAald, aIast, aBast, aAast, aAlen, aCopy, aCallV, aCallC, aCallI, aRet, aCat, aMax, aMin, aDiv, aRem, aI2l, aL2i, aNul, aSwS, aSw, aInc, aDup, aDup2, aPop1, aIret, aAret, aVret, aLen, aFk, aFT, Value.category]
    · have g1 : ¬ nI W ≤ nI m := nI_ge c1 (by omega)
      have g3 : (1 : Int32) + nI m = nI (1 + m) := nI_add 1 m
      by_cases c3 : m < P
      · have g2 : 0 ≤ nI m ∧ nI m ≤ nI P - 1 := (isIx (by omega)).mpr ⟨m, c3, rfl⟩
        have c4 : ¬ I 114 (430 + m) = I 114 (12 + 5 * m) := fun z => c2 ⟨c3, z.symm⟩
        have a2 : 10 + 5 * m + 2 = 12 + 5 * m := by omega
        simp [s_216, aILoad, aRLoad, aLLoad, aIStore, aRStore, aPush, aBin, aBinL, aShL, aUn, aIf, aIc, aGet, aPut, aIald, aBald, aAald, aIast, aBast, aAast, aAlen, aCopy, aCallV, aCallC, aCallI, aRet, aCat, aMax, aMin, aDiv, aRem, aI2l, aL2i, aNul, aSwS, aSw, aInc, aDup, aDup2, aPop1, aIret, aAret, aVret, aLen, aFk, aFT, Value.category, m_sh, m_p, g1, r_isPerson, h7, g2, ix, toNat_nI (show 430 + m < 2 ^ 31 by omega), nI_lt0 (show 430 + m < 2 ^ 31 by omega), show ¬ 454 ≤ 430 + m by omega, r_its (show m < 8 by omega), a2, c4, g3]
      · have g2 : ¬ (0 ≤ nI m ∧ nI m ≤ nI P - 1) := fun z => by
          obtain ⟨p, hp, e⟩ := (isIx (by omega)).mp z
          have := (nI_eq (by omega) (by omega)).mp e
          omega
        simp [s_216, aILoad, aRLoad, aLLoad, aIStore, aRStore, aPush, aBin, aBinL, aShL, aUn, aIf, aIc, aGet, aPut, aIald, aBald, aAald, aIast, aBast, aAast, aAlen, aCopy, aCallV, aCallC, aCallI, aRet, aCat, aMax, aMin, aDiv, aRem, aI2l, aL2i, aNul, aSwS, aSw, aInc, aDup, aDup2, aPop1, aIret, aAret, aVret, aLen, aFk, aFT, Value.category, m_sh, m_p, g1, r_isPerson, h7, g2, g3]
  | succ k ih =>
    intro m hm
    obtain ⟨c1, c3, c4⟩ := hlt m (by omega)
    have g1 : ¬ nI W ≤ nI m := nI_ge c1 (by omega)
    have g2 : 0 ≤ nI m ∧ nI m ≤ nI P - 1 := (isIx (by omega)).mpr ⟨m, c3, rfl⟩
    have a2 : 10 + 5 * m + 2 = 12 + 5 * m := by omega
    have g := ih (m + 1) (by omega)
    rw [s_216_18, ← g]
    simp [s_216, aILoad, aRLoad, aLLoad, aIStore, aRStore, aPush, aBin, aBinL, aShL, aUn, aIf, aIc, aGet, aPut, aIald, aBald, aAald, aIast, aBast, aAast, aAlen, aCopy, aCallV, aCallC, aCallI, aRet, aCat, aMax, aMin, aDiv, aRem, aI2l, aL2i, aNul, aSwS, aSw, aInc, aDup, aDup2, aPop1, aIret, aAret, aVret, aLen, aFk, aFT, Value.category, m_sh, m_p, g1, r_isPerson, h7, g2, ix, toNat_nI (show 430 + m < 2 ^ 31 by omega), nI_lt0 (show 430 + m < 2 ^ 31 by omega), show ¬ 454 ≤ 430 + m by omega, r_its (show m < 8 by omega), a2, c4, nI_1]
theorem pair_check : Pair 102 216 [] := by
  intro d I x y h
  obtain ⟨f, P, T, h1, hf, hA⟩ := h.f
  have hP := hA.1.1
  have e7 := hA.1.fi.2.2.1
  obtain ⟨⟨L, l1, l2, l3, l4⟩, ⟨W, w1, w2, w3, w4⟩, hb⟩ := hA.2.1
  obtain ⟨M, hM, hlt⟩ := pk_least (fun m => ¬ (m < W ∧ m < P ∧ I 114 (12 + 5 * m) = I 114 (430 + m))) ⟨W, fun z => by omega⟩
  have hMW : M ≤ W := Nat.not_lt.mp fun z => hlt W z (fun q => by omega)
  have hlt' : ∀ j, j < M → j < W ∧ j < P ∧ I 114 (12 + 5 * j) = I 114 (430 + j) := fun j hj => Classical.byContradiction (hlt j hj)
  obtain ⟨v, hv⟩ : ∃ v, M = W ∧ v = 0 ∨ M < W ∧ ¬ (M < P ∧ I 114 (12 + 5 * M) = I 114 (430 + M)) ∧ v = nI (1 + M) := by
    by_cases e : M = W
    · exact ⟨0, Or.inl ⟨e, rfl⟩⟩
    · exact ⟨nI (1 + M), Or.inr ⟨by omega, fun z => hM ⟨by omega, z⟩, rfl⟩⟩
  have c5 : ∀ k, k ≠ 6 → upd (I 114) 6 0 k = I 114 k := fun k hk => upd_ne hk
  have hr : relF f (aUpd I f 9 0) (upd (I 114) 6 0) P T := hA.1.w (fun r a _ _ => aUpd_ne a) (fun k _ hk => by rw [aUpd_row, upd_ne hk]) (fun k _ hk _ => c5 k hk)
  generalize hJ : aUpd I f 9 0 = J at *
  have jr : ∀ r, r ≠ f → J r = I r := fun r hr => by rw [← hJ, aUpd_ne hr]
  have jf : J f = upd (I f) 9 0 := by rw [← hJ, aUpd_row]
  have e114 : J 114 = I 114 := jr 114 (by omega)
  have kl := k_chk_loop (d := d + 17) (I := J) (x := x) (y := y) (P := P) (T := T) (W := W) (M := M) (v := v) (σ := upd (I 114) 6 0) h1 hf hr w1 (fun j hj => by rw [jr _ (by omega), c5 _ (by omega)]; exact w4 j hj) (by rw [c5 _ (by omega), c5 _ (by omega)]; exact hv) (fun j hj => by rw [c5 _ (by omega), c5 _ (by omega)]; exact hlt' j hj) M 0 none (by omega)
  have rl := r_chk_loop (d := d + 17) (I := aUpd J 114 6 0) (x := x) (y := y) (P := P) (W := W) (M := M) (v := v) hP.1 (by rw [aUpd_row, upd_ne (by omega), e114]; exact e7) w1 (by rw [aUpd_row, e114, c5 _ (by omega), c5 _ (by omega)]; exact hv) (fun j hj => by rw [aUpd_row, e114, c5 _ (by omega), c5 _ (by omega)]; exact hlt' j hj) M 0 (by omega)
  rw [nI_lit0] at kl rl
  refine Pair.now (v := v) (P := P) (T := T) h h1 (I1 := J) (I2 := aUpd J 114 6 0) ?_ ?_ (fun r hr => jr r (by omega)) (RG.rf.upd) ?_
  · rw [e_102, ← kl, ← hJ]; simp [s_102, aILoad, aRLoad, aLLoad, aIStore, aRStore, aPush, aBin, aBinL, aShL, aUn, aIf, aIc, aGet, aPut, aIald, aBald, aAald, aIast, aBast, aAast, aAlen, aCopy, aCallV, aCallC, aCallI, aRet, aCat, aMax, aMin, aDiv, aRem, aI2l, aL2i, aNul, aSwS, aSw, aInc, aDup, aDup2, aPop1, aIret, aAret, aVret, aLen, aFk, aFT, Value.category, c_sh, c_f h1, f_sh hf, w2]
  · rw [e_216, ← rl]; simp [s_216, aILoad, aRLoad, aLLoad, aIStore, aRStore, aPush, aBin, aBinL, aShL, aUn, aIf, aIc, aGet, aPut, aIald, aBald, aAald, aIast, aBast, aAast, aAlen, aCopy, aCallV, aCallC, aCallI, aRet, aCat, aMax, aMin, aDiv, aRem, aI2l, aL2i, aNul, aSwS, aSw, aInc, aDup, aDup2, aPop1, aIret, aAret, aVret, aLen, aFk, aFT, Value.category, m_sh, m_p, e114, w3]
  · rw [aUpd_row, e114]
    refine ⟨hr, ⟨⟨L, l1, by rw [jf, upd_ne (by omega)]; exact l2, by rw [c5 _ (by omega)]; exact l3, fun i hi => by rw [jr _ (by omega), c5 _ (by omega)]; exact l4 i hi⟩, ⟨0, by omega, by rw [jf, upd_eq]; rfl, by rw [upd_eq]; rfl, fun i hi => by omega⟩, fun i hi => by rw [jr _ (by omega)]; exact hb i hi⟩, hA.2.2.w hP.1 hP.2 (fun k _ hk _ => c5 k hk)⟩
theorem r_carry_loop {a b : Nat} (ha : SH[a]? = some (20, 454)) (hb : SH[b]? = some (20, 454)) (hab : a ≠ b) : ∀ k i, i + k = 454 →
    aGo (aCall aMt d) none cd_119 3 2 [some (.ref a), some (.ref b), some (.int (nI i))] [] (HH (aCpy I a b 0 0 i) x y) = some (none, HH (aCpy I a b 0 0 454) x y) := by
  intro k
  induction k with
  | zero =>
    intro i hi
    obtain rfl : i = 454 := by omega
    have g1 : (454 : Int32) ≤ nI 454 := by decide
    rw [s_119_2]
    simp [s_119, aILoad, aRLoad, aLLoad, aIStore, aRStore, aPush, aBin, aBinL, aShL, aUn, aIf, aIc, aGet, aPut, aIald, aBald, aAald, aIast, aBast, aAast, aAlen, aCopy, aCallV, aCallC, aCallI, aRet, aCat, aMax, aMin, aDiv, aRem, aI2l, aL2i, aNul, aSwS, aSw, aInc, aDup, aDup2, aPop1, aIret, aAret, aVret, aLen, aFk, aFT, Value.category, g1]
  | succ k ih =>
    intro i hi
    have g1 : ¬ (454 : Int32) ≤ nI i := nI_ge (b := 454) (by omega) (by omega)
    have g := ih (i + 1) (by omega)
    rw [← aCpy_s, Nat.zero_add] at g
    have ea : aCpy I a b 0 0 i a = I a := cpy_ne hab
    rw [s_119_2, ← g]
    simp [s_119, aILoad, aRLoad, aLLoad, aIStore, aRStore, aPush, aBin, aBinL, aShL, aUn, aIf, aIc, aGet, aPut, aIald, aBald, aAald, aIast, aBast, aAast, aAlen, aCopy, aCallV, aCallC, aCallI, aRet, aCat, aMax, aMin, aDiv, aRem, aI2l, aL2i, aNul, aSwS, aSw, aInc, aDup, aDup2, aPop1, aIret, aAret, aVret, aLen, aFk, aFT, Value.category, g1, ha, hb, ea, toNat_nI (show i < 2 ^ 31 by omega), nI_lt0 (show i < 2 ^ 31 by omega), show ¬ 454 ≤ i by omega, nI_1]
theorem r_carry {a b : Nat} (ha : SH[a]? = some (20, 454)) (hb : SH[b]? = some (20, 454)) (hab : a ≠ b) : aCall aMt (d + 1) 119 [.ref a, .ref b] (HH I x y) = some (none, HH (aCpy I a b 0 0 454) x y) := by
  have g := r_carry_loop (d := d) (I := I) (x := x) (y := y) ha hb hab 454 0 (by omega)
  rw [aCpy_0, nI_lit0] at g
  rw [e_119, ← g]
  simp [s_119, aILoad, aRLoad, aLLoad, aIStore, aRStore, aPush, aBin, aBinL, aShL, aUn, aIf, aIc, aGet, aPut, aIald, aBald, aAald, aIast, aBast, aAast, aAlen, aCopy, aCallV, aCallC, aCallI, aRet, aCat, aMax, aMin, aDiv, aRem, aI2l, aL2i, aNul, aSwS, aSw, aInc, aDup, aDup2, aPop1, aIret, aAret, aVret, aLen, aFk, aFT, Value.category]
/-- a Fridge copied onto another: the relation comes along, that of the one copied stays -/
theorem relA.cp {f g P T : Nat} {σ : Nat → Int32} (h : relA g I σ P T) (hf : isF f) (hg : isF g) (hfg : f ≠ g) (hk : kF f I) : ∃ I1, aCall aMt (d + 2) 1 [.ref f, .ref g] (HH I x y) = some (none, HH I1 x y) ∧ relA f I1 σ P T ∧ KG f I I1 := by
  have hP := h.1.1
  obtain ⟨I1, c1, c2⟩ := k_copy (d := d) (I := I) (x := x) (y := y) (P := P) (T := T) hf hg hfg h.1.fi.1 hP.1 h.1.fi.2.1 hP.2 h.2.1.2.2 (fun t ht => by
    rw [(h.1.th ht).2.2.2.2.2.1]; exact (h.2.2.2.1 t ht).2.2.imp (fun z => z) (fun z => z.1))
  exact ⟨I1, c1, h.copy hk c2, c2.1⟩
theorem isF_1 {f : Nat} (h : f = 1) : isF f := Or.inl h
theorem isF_32 {f : Nat} (h : f = 32) : isF f := Or.inr (Or.inl h)
theorem isF_63 {f : Nat} (h : f = 63) : isF f := Or.inr (Or.inr h)
theorem pair_image : Pair 99 213 [] := by
  intro d I x y h
  obtain ⟨f, P, T, h1, hf, hA⟩ := h.f
  obtain ⟨g, hg1⟩ : ∃ g, g = 32 := ⟨32, rfl⟩
  have hg := isF_32 hg1
  have hP := hA.1.1
  obtain ⟨_, ⟨k1, k2, k3⟩, hF, hE, hS, hV⟩ := h
  rw [← hg1] at k3
  obtain ⟨I1, c1, c2, c3⟩ := hA.cp (d := d + 17) (x := x) (y := y) hg hf (by omega) k3
  have i0 : I1 0 = I 0 := c3 0 (by omega)
  have er : ∀ r, 113 ≤ r → I1 r = I r := fun r hr => c3 r (by omega)
  have rc := r_carry (d := d + 18) (I := aUpd I1 0 8 (I 0 8 + 1)) (x := x) (y := y) (a := 114) (b := 115) rfl rfl (by omega)
  generalize hJ : aUpd I1 0 8 (I 0 8 + 1) = J at rc
  have jr : ∀ r, r ≠ 0 → J r = I1 r := fun r hr => by rw [← hJ, aUpd_ne hr]
  have j0 : J 0 = upd (I 0) 8 (I 0 8 + 1) := by rw [← hJ, aUpd_row, i0]
  generalize hK : aCpy J 114 115 0 0 454 = K at rc
  have kr : ∀ r, r ≠ 115 → K r = J r := fun r hr => by rw [← hK, cpy_ne hr]
  have k5 : ∀ j, j < 454 → K 115 j = I 114 j := fun j hj => by rw [← hK, cpy_row hj, jr 114 (by omega), er 114 (by omega)]
  have hz : ∀ r, r ≠ 113 → aUpd K 113 3 (I 113 3 + 1) r = K r := fun r hr => aUpd_ne hr
  have hl : ∀ r, r ≠ 0 → r < 32 ∨ 62 < r → r ≠ 115 → r ≠ 113 → aUpd K 113 3 (I 113 3 + 1) r = I r := fun r a b c e => by rw [hz r e, kr r c, jr r a, c3 r (by omega)]
  have k113 : K 113 = I 113 := by rw [kr 113 (by omega), jr 113 (by omega), er 113 (by omega)]
  refine ⟨I 0 8 + 1, J, x, y, aUpd K 113 3 (I 113 3 + 1), ?_, ?_, ⟨P, T, ?_⟩, ⟨?_, Or.inr ⟨P, T, ?_⟩, ?_⟩, hF.rows fun r a b => hl r (by omega) (by omega) (by omega) (by omega), fun k a b => ?_, fun i hi => ?_, ?_⟩
  · rw [e_99, ← hJ]; simp [s_99, aILoad, aRLoad, aLLoad, aIStore, aRStore, aPush, aBin, aBinL, aShL, aUn, aIf, aIc, aGet, aPut, aIald, aBald, aAald, aIast, aBast, aAast, aAlen, aCopy, aCallV, aCallC, aCallI, aRet, aCat, aMax, aMin, aDiv, aRem, aI2l, aL2i, aNul, aSwS, aSw, aInc, aDup, aDup2, aPop1, aIret, aAret, aVret, aLen, aFk, aFT, Value.category, c_sh, c_f h1, c_g hg1, f_sh hf, f_sh hg, c1, i0, upd_eq, aUpd_row]
  · rw [e_213, k1]; simp [s_213, aILoad, aRLoad, aLLoad, aIStore, aRStore, aPush, aBin, aBinL, aShL, aUn, aIf, aIc, aGet, aPut, aIald, aBald, aAald, aIast, aBast, aAast, aAlen, aCopy, aCallV, aCallC, aCallI, aRet, aCat, aMax, aMin, aDiv, aRem, aI2l, aL2i, aNul, aSwS, aSw, aInc, aDup, aDup2, aPop1, aIret, aAret, aVret, aLen, aFk, aFT, Value.category, m_sh, m_p, rc, k113, upd_eq, aUpd_row]
  · rw [hl 114 (by omega) (by omega) (by omega) (by omega)]
    subst h1
    exact hA.rows fun r a b => hl r (by omega) (by omega) (by omega) (by omega)
  · rw [hz 0 (by omega), kr 0 (by omega), j0, upd_eq, aUpd_row, upd_eq, k1]
  · have c4 : relA 32 (aUpd K 113 3 (I 113 3 + 1)) (I 114) P T := by
      rw [hg1] at c2; exact c2.rows fun r a b => by rw [hz r (by omega), kr r (by omega), jr r (by omega)]
    exact c4.sig fun k hk => by rw [hz 115 (by omega)]; exact k5 k hk
  · rw [hg1] at c2; exact c2.1.k.rows fun r a b => by rw [hz r (by omega), kr r (by omega), jr r (by omega)]
  · rw [hl 103 (by omega) (by omega) (by omega) (by omega), hl 117 (by omega) (by omega) (by omega) (by omega)]; exact hE k a b
  · rw [hl _ (by omega) (by omega) (by omega) (by omega), hl (106 + 2 * i) (by omega) (by omega) (by omega) (by omega), hl 124 (by omega) (by omega) (by omega) (by omega), hl 125 (by omega) (by omega) (by omega) (by omega), hl 126 (by omega) (by omega) (by omega) (by omega)]; exact hS i hi
  · obtain ⟨n, a, b, c, e⟩ := hV
    exact ⟨n, a, by rw [hl 100 (by omega) (by omega) (by omega) (by omega)]; exact b, by rw [aUpd_row, upd_ne (by omega), k113]; exact c, fun j hj => by rw [hl 101 (by omega) (by omega) (by omega) (by omega), hl 123 (by omega) (by omega) (by omega) (by omega)]; exact e j hj⟩
theorem pair_restore : Pair 100 214 [] := by
  intro d I x y h
  obtain ⟨f, P0, T0, h1, hf, hA0⟩ := h.f
  obtain ⟨g, hg1⟩ : ∃ g, g = 32 := ⟨32, rfl⟩
  have hg := isF_32 hg1
  have k1 := h.2.1.1
  by_cases h0 : I 0 8 = 0
  · refine Pair.ref 2 (-1000000002) h ?_ (fun I' hI => ?_)
    · rw [e_100]; simp [s_100, aILoad, aRLoad, aLLoad, aIStore, aRStore, aPush, aBin, aBinL, aShL, aUn, aIf, aIc, aGet, aPut, aIald, aBald, aAald, aIast, aBast, aAast, aAlen, aCopy, aCallV, aCallC, aCallI, aRet, aCat, aMax, aMin, aDiv, aRem, aI2l, aL2i, aNul, aSwS, aSw, aInc, aDup, aDup2, aPop1, aIret, aAret, aVret, aLen, aFk, aFT, Value.category, c_sh, h0, rf_2]
    · have e : I' 113 3 = 0 := by rw [hI 113 (by decide), ← k1]; exact h0
      rw [e_214]; simp [s_214, aILoad, aRLoad, aLLoad, aIStore, aRStore, aPush, aBin, aBinL, aShL, aUn, aIf, aIc, aGet, aPut, aIald, aBald, aAald, aIast, aBast, aAast, aAlen, aCopy, aCallV, aCallC, aCallI, aRet, aCat, aMax, aMin, aDiv, aRem, aI2l, aL2i, aNul, aSwS, aSw, aInc, aDup, aDup2, aPop1, aIret, aAret, aVret, aLen, aFk, aFT, Value.category, m_sh, e, re_2]
  · obtain ⟨P, T, hA⟩ := h.2.1.2.1.resolve_left h0
    rw [← hg1] at hA
    have hP := hA.1.1
    obtain ⟨I1, c1, c2, c3⟩ := hA.cp (d := d + 17) (x := x) (y := y) hf hg (by omega) hA0.1.k
    have er : ∀ r, 31 < r → I1 r = I r := fun r hr => c3 r (by omega)
    have rc := r_carry (d := d + 18) (I := I1) (x := x) (y := y) (a := 115) (b := 114) rfl rfl (by omega)
    have r0 : aCpy I1 115 114 0 0 454 114 0 = I 115 0 := by rw [cpy_row (by omega), er 115 (by omega)]
    have z0 : ¬ I1 113 3 = 0 := by rw [er 113 (by omega), ← k1]; exact h0
    have f10 : I1 f 10 = I 115 0 := c2.1.fi.2.2.2.2.1
    have j0 : I1 0 = I 0 := c3 0 (by omega)
    refine Pair.now (v := I 115 0) (P := P) (T := T) h h1 (I1 := I1) (I2 := aCpy I1 115 114 0 0 454) ?_ ?_ c3 (fun j a _ _ => cpy_ne a) ?_
    · rw [e_100]; simp [s_100, aILoad, aRLoad, aLLoad, aIStore, aRStore, aPush, aBin, aBinL, aShL, aUn, aIf, aIc, aGet, aPut, aIald, aBald, aAald, aIast, aBast, aAast, aAlen, aCopy, aCallV, aCallC, aCallI, aRet, aCat, aMax, aMin, aDiv, aRem, aI2l, aL2i, aNul, aSwS, aSw, aInc, aDup, aDup2, aPop1, aIret, aAret, aVret, aLen, aFk, aFT, Value.category, c_sh, c_f h1, c_g hg1, f_sh hf, f_sh hg, h0, c1, f10]
    · rw [e_214]; simp [s_214, aILoad, aRLoad, aLLoad, aIStore, aRStore, aPush, aBin, aBinL, aShL, aUn, aIf, aIc, aGet, aPut, aIald, aBald, aAald, aIast, aBast, aAast, aAlen, aCopy, aCallV, aCallC, aCallI, aRet, aCat, aMax, aMin, aDiv, aRem, aI2l, aL2i, aNul, aSwS, aSw, aInc, aDup, aDup2, aPop1, aIret, aAret, aVret, aLen, aFk, aFT, Value.category, m_sh, m_p, z0, rc, r0]
    · exact c2.sig fun k hk => by rw [cpy_row hk, er 115 (by omega)]
end PAIR14
