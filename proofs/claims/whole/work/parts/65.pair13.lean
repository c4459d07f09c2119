/-! the calls in pairs: labels, check, image, restore -/
theorem relF.w {f P T : Nat} {I I1 : Nat → Nat → Int32} {σ σ1 : Nat → Int32} (h : relF f I σ P T) (a : ∀ r, r ≠ f → r ≠ f + 11 → r ≠ f + 12 → I1 r = I r) (b : ∀ k, k ≠ 8 → k ≠ 9 → I1 f k = I f k) (c : ∀ k, k ≠ 5 → k ≠ 6 → k < 370 → σ1 k = σ k) : relF f I1 σ1 P T := by
  obtain ⟨g1, g2, g3, g4, g5, g6, g7, g8, g9⟩ := h
  refine ⟨g1, ⟨by rw [b 6 (by omega) (by omega)]; exact g2.1, by rw [b 7 (by omega) (by omega)]; exact g2.2⟩, ⟨by rw [c 7 (by omega) (by omega) (by omega)]; exact g3.1, by rw [c 8 (by omega) (by omega) (by omega)]; exact g3.2⟩, fun p hp => by rw [a _ (by omega) (by omega) (by omega)]; exact g4 p hp, fun p hp j hj => by rw [a _ (by omega) (by omega) (by omega), c _ (by omega) (by omega) (by omega)]; exact g5 p hp j hj, fun t ht j hj => by rw [a _ (by omega) (by omega) (by omega), c _ (by omega) (by omega) (by omega)]; exact g6 t ht j hj, fun k hk => by rw [b _ (by omega) (by omega), c _ (by omega) (by omega) (by omega)]; exact g7 k hk, relL_congr g8 (a _ (by omega) (by omega) (by omega)) (a _ (by omega) (by omega) (by omega)) (a _ (by omega) (by omega) (by omega)) (fun k _ _ => c k (by omega) (by omega) (by omega)), relL_congr g9 (a _ (by omega) (by omega) (by omega)) (a _ (by omega) (by omega) (by omega)) (a _ (by omega) (by omega) (by omega)) (fun k _ _ => c k (by omega) (by omega) (by omega))⟩
theorem wfS.w {P T : Nat} {σ σ1 : Nat → Int32} (h : wfS σ P T) (hP : P ≤ 8) (hT : T ≤ 10) (c : ∀ k, k ≠ 5 → k ≠ 6 → k < 370 → σ1 k = σ k) : wfS σ1 P T := by
  obtain ⟨h1, h2, h3, h4⟩ := h
  refine ⟨fun p hp => ?_, fun t ht => ?_, okT_congr (fun k _ _ => c k (by omega) (by omega) (by omega)) h3, fun k _ _ => by rw [c k (by omega) (by omega) (by omega)]; exact h4 k (by omega) (by omega)⟩
  · rw [c _ (by omega) (by omega) (by omega), c _ (by omega) (by omega) (by omega), c _ (by omega) (by omega) (by omega)]; exact h1 p hp
  · rw [c _ (by omega) (by omega) (by omega), c _ (by omega) (by omega) (by omega), c _ (by omega) (by omega) (by omega), c _ (by omega) (by omega) (by omega)]; exact h2 t ht
theorem relA.sig {f P T : Nat} {I : Nat → Nat → Int32} {σ σ1 : Nat → Int32} (h : relA f I σ P T) (c : ∀ k, k < 454 → σ1 k = σ k) : relA f I σ1 P T := by
  have hP := h.1.1
  obtain ⟨⟨L, l1, l2, l3, l4⟩, ⟨W, w1, w2, w3, w4⟩, hb⟩ := h.2.1
  exact ⟨h.1.w (fun _ _ _ _ => rfl) (fun _ _ _ => rfl) (fun k _ _ _ => c k (by omega)), ⟨⟨L, l1, l2, by rw [c 5 (by omega)]; exact l3, fun i hi => by rw [c _ (by omega)]; exact l4 i hi⟩, ⟨W, w1, w2, by rw [c 6 (by omega)]; exact w3, fun i hi => by rw [c _ (by omega)]; exact w4 i hi⟩, hb⟩, h.2.2.w hP.1 hP.2 (fun k _ _ _ => c k (by omega))⟩
def sLab (σ N : Nat → Int32) : Nat → (Nat → Int32)
  | 0 => σ
  | m + 1 => upd (sLab σ N m) (51 + 7 * m) (N m)
theorem sLab_ne {σ N : Nat → Int32} {k : Nat} : ∀ {m : Nat}, (∀ t, t < m → k ≠ 51 + 7 * t) → sLab σ N m k = σ k
  | 0, _ => rfl
  | m + 1, h => by rw [sLab, upd_ne (h m (by omega)), sLab_ne (fun t ht => h t (by omega))]
section PAIR13
variable {d : Nat} {I : Nat → Nat → Int32} {x y : Option Nat}
theorem k_lab_loop {f P T a s M : Nat} {v : Int32} {I0 : Nat → Nat → Int32} {σ N : Nat → Int32} (h1 : f = 1) (hf : isF f) (hs : s < 4) (ha : a ≤ 24) (q3 : I0 (105 + 2 * s) 2 = nI a) (q5 : ∀ j, j < 24 → I0 (106 + 2 * s) j = N j) (hM : ¬ (M < a ∧ M < T ∧ 0 ≤ N M ∧ N M ≤ 2)) (hlt : ∀ j, j < M → j < a ∧ j < T ∧ 0 ≤ N j ∧ N j ≤ 2) (hMa : M ≤ a) : ∀ k m (I : Nat → Nat → Int32), m + k = M → relA f I (sLab σ N m) P T → KG f I0 I →
    ∃ I1, aGo (aCall aMt (d + 2)) none cd_97 0 34 [some (.ref 0), some (.int v), some (.ref (105 + 2 * s)), some (.int (nI m))] [] (HH I x y) = some (some (.int (nI M)), HH I1 x y) ∧ relA f I1 (sLab σ N M) P T ∧ KG f I0 I1 := by
  intro k
  induction k with
  | zero =>
    intro m I hm hA hk
    obtain rfl : m = M := by omega
    have e5 : I (105 + 2 * s) = I0 (105 + 2 * s) := hk _ (by omega)
    have e6 : I (106 + 2 * s) = I0 (106 + 2 * s) := hk _ (by omega)
    refine ⟨I, ?_, hA, hk⟩
    rw [s_97_34]
    by_cases c1 : m < a
    · have g1 : ¬ nI a ≤ nI m := nI_ge c1 (by omega)
      by_cases c2 : m < T
      · have hT := hA.1.1.2
        have g2 : ¬ nI T ≤ nI m := nI_ge c2 (by omega)
        have c3 : ¬ (0 ≤ N m ∧ N m ≤ 2) := fun z => hM ⟨c1, c2, z⟩
        simp [s_97, aILoad, aRLoad, aLLoad, aIStore, aRStore, aPush, aBin, aBinL, aShL, aUn, aIf, aIc, aGet, aPut, aIald, aBald, aAald, aIast, aBast, aAast, aAlen, aCopy, aCallV, aCallC, aCallI, aRet, aCat, aMax, aMin, aDiv, aRem, aI2l, aL2i, aNul, aSwS, aSw, aInc, aDup, aDup2, aPop1, aIret, aAret, aVret, aLen, aFk, aFT, Value.category, c_sh, c_f h1, f_sh hf, sh_sh hs, sh_p hs, e5, e6, q3, g1, hA.1.fi, g2, q5 m (by omega), k_isIn, c3, toNat_nI (show m < 2 ^ 31 by omega), nI_lt0 (show m < 2 ^ 31 by omega), show ¬ 24 ≤ m by omega]
      · have g2 : nI T ≤ nI m := nI_le (by omega) (by omega)
        simp [s_97, aILoad, aRLoad, aLLoad, aIStore, aRStore, aPush, aBin, aBinL, aShL, aUn, aIf, aIc, aGet, aPut, aIald, aBald, aAald, aIast, aBast, aAast, aAlen, aCopy, aCallV, aCallC, aCallI, aRet, aCat, aMax, aMin, aDiv, aRem, aI2l, aL2i, aNul, aSwS, aSw, aInc, aDup, aDup2, aPop1, aIret, aAret, aVret, aLen, aFk, aFT, Value.category, c_sh, c_f h1, f_sh hf, sh_sh hs, sh_p hs, e5, e6, q3, g1, hA.1.fi, g2]
    · have g1 : nI a ≤ nI m := nI_le (by omega) (by omega)
      simp [s_97, aILoad, aRLoad, aLLoad, aIStore, aRStore, aPush, aBin, aBinL, aShL, aUn, aIf, aIc, aGet, aPut, aIald, aBald, aAald, aIast, aBast, aAast, aAlen, aCopy, aCallV, aCallC, aCallI, aRet, aCat, aMax, aMin, aDiv, aRem, aI2l, aL2i, aNul, aSwS, aSw, aInc, aDup, aDup2, aPop1, aIret, aAret, aVret, aLen, aFk, aFT, Value.category, c_sh, sh_sh hs, sh_p hs, e5, q3, g1]
  | succ k ih =>
    intro m I hm hA hk
    have e5 : I (105 + 2 * s) = I0 (105 + 2 * s) := hk _ (by omega)
    have e6 : I (106 + 2 * s) = I0 (106 + 2 * s) := hk _ (by omega)
    obtain ⟨c1, c2, c3⟩ := hlt m (by omega)
    have hT := hA.1.1.2
    have g1 : ¬ nI a ≤ nI m := nI_ge c1 (by omega)
    have g2 : ¬ nI T ≤ nI m := nI_ge c2 (by omega)
    obtain ⟨I1, p1, p2⟩ := ih (m + 1) (aUpd I (f + 21 + m) 1 (N m)) (by omega) (hA.setT (j := 1) (k := 51 + 7 * m) c2 (by omega) (by omega) (fun z => by omega) (fun z => by omega) (fun z => by omega) (fun z => by omega)) (hk.upd (by omega) (by omega))
    refine ⟨I1, ?_, p2⟩
    rw [s_97_34, ← p1]
    simp [s_97, aILoad, aRLoad, aLLoad, aIStore, aRStore, aPush, aBin, aBinL, aShL, aUn, aIf, aIc, aGet, aPut, aIald, aBald, aAald, aIast, aBast, aAast, aAlen, aCopy, aCallV, aCallC, aCallI, aRet, aCat, aMax, aMin, aDiv, aRem, aI2l, aL2i, aNul, aSwS, aSw, aInc, aDup, aDup2, aPop1, aIret, aAret, aVret, aLen, aFk, aFT, Value.category, c_sh, c_f h1, f_sh hf, f_p hf, f_tp hf (show m < 10 by omega), f_th hf (show m < 10 by omega), sh_sh hs, sh_p hs, e5, e6, q3, g1, hA.1.fi, g2, q5 m (by omega), k_isIn, c3, toNat_nI (show m < 2 ^ 31 by omega), nI_lt0 (show m < 2 ^ 31 by omega), show ¬ 24 ≤ m by omega, show ¬ 10 ≤ m by omega, nI_1]
theorem r_lacks {v : Int32} : aCall aMt (d + 3) 210 [.ref 113, .int v] (HH I x y) = some (some (.int (if 0 ≤ v ∧ v ≤ 3 then (if I 124 v.toNatClampNeg = 0 then 2 else 0) else 1)), HH I x y) := by
  rw [e_210]
  by_cases hv : 0 ≤ v ∧ v ≤ 3
  · obtain ⟨s, hs3, rfl⟩ := in_0n (n := 3) rfl (by omega) hv
    by_cases h0 : I 124 s = 0 <;> simp [s_210, aILoad, aRLoad, aLLoad, aIStore, aRStore, aPush, aBin, aBinL, aShL, aUn, aIf, aIc, aGet, aPut, aIald, aBald, aAald, aIast, aBast, aAast, aAlen, aCopy, aCallV, aCallC, aCallI, aRet, aCat, aMax, aMin, aDiv, aRem, aI2l, aL2i, aNul, aSwS, aSw, aInc, aDup, aDup2, aPop1, aIret, aAret, aVret, aLen, aFk, aFT, Value.category, m_sh, m_p, r_isSheet, hv, h0, toNat_nI (show s < 2 ^ 31 by omega), nI_lt0 (show s < 2 ^ 31 by omega), show ¬ 4 ≤ s by omega]
  · simp [s_210, aILoad, aRLoad, aLLoad, aIStore, aRStore, aPush, aBin, aBinL, aShL, aUn, aIf, aIc, aGet, aPut, aIald, aBald, aAald, aIast, aBast, aAast, aAlen, aCopy, aCallV, aCallC, aCallI, aRet, aCat, aMax, aMin, aDiv, aRem, aI2l, aL2i, aNul, aSwS, aSw, aInc, aDup, aDup2, aPop1, aIret, aAret, aVret, aLen, aFk, aFT, Value.category, m_sh, r_isSheet, hv]
theorem r_lab_loop {T a s M : Nat} {w : Int32} {I0 : Nat → Nat → Int32} {N : Nat → Int32} (hs : s < 4) (ha : a ≤ 24) (hT : T ≤ 10) (h8 : I0 114 8 = nI T) (q4 : I0 125 s = nI a) (q5 : ∀ j, j < 24 → I0 126 (24 * s + j) = N j) (hM : ¬ (M < a ∧ M < T ∧ 0 ≤ N M ∧ N M ≤ 2)) (hlt : ∀ j, j < M → j < a ∧ j < T ∧ 0 ≤ N j ∧ N j ≤ 2) (hMa : M ≤ a) : ∀ k m (I : Nat → Nat → Int32), m + k = M → I 114 = sLab (I0 114) N m → (∀ j, j ≠ 114 → I j = I0 j) →
    ∃ I1, aGo (aCall aMt (d + 2)) none cd_211 0 18 [some (.ref 113), some (.int (nI s)), some (.int w), some (.int (nI m))] [] (HH I x y) = some (some (.int (nI M)), HH I1 x y) ∧ I1 114 = sLab (I0 114) N M ∧ (∀ j, j ≠ 114 → I1 j = I0 j) := by
  have ix : ∀ m, (24 : Int32) * nI s + nI m = nI (24 * s + m) := fun m => by rw [show (24 : Int32) = nI 24 from rfl, pk_mul, nI_add]
  have ts := toNat_nI (show s < 2 ^ 31 by omega)
  have ns := nI_lt0 (show s < 2 ^ 31 by omega)
  have l4 : ¬ 4 ≤ s := by omega
  intro k
  induction k with
  | zero =>
    intro m I hm hI hk
    obtain rfl : m = M := by omega
    have e5 : I 125 = I0 125 := hk _ (by omega)
    have e6 : I 126 = I0 126 := hk _ (by omega)
    have e8 : I 114 8 = nI T := by rw [hI, sLab_ne (fun t _ => by omega)]; exact h8
    refine ⟨I, ?_, hI, hk⟩
    rw [s_211_18]
    by_cases c1 : m < a
    · have g1 : ¬ nI a ≤ nI m := nI_ge c1 (by omega)
      by_cases c2 : m < T
      · have g2 : 0 ≤ nI m ∧ nI m ≤ nI T - 1 := (isIx (by omega)).mpr ⟨m, c2, rfl⟩
        have c3 : ¬ (0 ≤ N m ∧ N m ≤ 2) := fun z => hM ⟨c1, c2, z⟩
        simp [s_211, aILoad, aRLoad, aLLoad, aIStore, aRStore, aPush, aBin, aBinL, aShL, aUn, aIf, aIc, aGet, aPut, aIald, aBald, aAald, aIast, aBast, aAast, aAlen, aCopy, aCallV, aCallC, aCallI, aRet, aCat, aMax, aMin, aDiv, aRem, aI2l, aL2i, aNul, aSwS, aSw, aInc, aDup, aDup2, aPop1, aIret, aAret, aVret, aLen, aFk, aFT, Value.category, m_sh, m_p, e5, q4, ts, ns, l4, g1, r_isThing, e8, g2, e6, ix, q5 m (by omega), r_in, c3, toNat_nI (show 24 * s + m < 2 ^ 31 by omega), nI_lt0 (show 24 * s + m < 2 ^ 31 by omega), show ¬ 96 ≤ 24 * s + m by omega]
      · have g2 : ¬ (0 ≤ nI m ∧ nI m ≤ nI T - 1) := fun z => by
          obtain ⟨p, hp, e⟩ := (isIx (by omega)).mp z
          have := (nI_eq (by omega) (by omega)).mp e
          omega
        simp [s_211, aILoad, aRLoad, aLLoad, aIStore, aRStore, aPush, aBin, aBinL, aShL, aUn, aIf, aIc, aGet, aPut, aIald, aBald, aAald, aIast, aBast, aAast, aAlen, aCopy, aCallV, aCallC, aCallI, aRet, aCat, aMax, aMin, aDiv, aRem, aI2l, aL2i, aNul, aSwS, aSw, aInc, aDup, aDup2, aPop1, aIret, aAret, aVret, aLen, aFk, aFT, Value.category, m_sh, m_p, e5, q4, ts, ns, l4, g1, r_isThing, e8, g2]
    · have g1 : nI a ≤ nI m := nI_le (by omega) (by omega)
      simp [s_211, aILoad, aRLoad, aLLoad, aIStore, aRStore, aPush, aBin, aBinL, aShL, aUn, aIf, aIc, aGet, aPut, aIald, aBald, aAald, aIast, aBast, aAast, aAlen, aCopy, aCallV, aCallC, aCallI, aRet, aCat, aMax, aMin, aDiv, aRem, aI2l, aL2i, aNul, aSwS, aSw, aInc, aDup, aDup2, aPop1, aIret, aAret, aVret, aLen, aFk, aFT, Value.category, m_sh, m_p, e5, q4, ts, ns, l4, g1]
  | succ k ih =>
    intro m I hm hI hk
    have e5 : I 125 = I0 125 := hk _ (by omega)
    have e6 : I 126 = I0 126 := hk _ (by omega)
    have e8 : I 114 8 = nI T := by rw [hI, sLab_ne (fun t _ => by omega)]; exact h8
    obtain ⟨c1, c2, c3⟩ := hlt m (by omega)
    have g1 : ¬ nI a ≤ nI m := nI_ge c1 (by omega)
    have g2 : 0 ≤ nI m ∧ nI m ≤ nI T - 1 := (isIx (by omega)).mpr ⟨m, c2, rfl⟩
    have a1 : 50 + 7 * m + 1 = 51 + 7 * m := by omega
    obtain ⟨I1, p1, p2⟩ := ih (m + 1) (aUpd I 114 (51 + 7 * m) (N m)) (by omega) (by rw [aUpd_row, hI]; rfl) (fun j hj => by rw [aUpd_ne hj, hk j hj])
    refine ⟨I1, ?_, p2⟩
    rw [s_211_18, ← p1]
    simp [s_211, aILoad, aRLoad, aLLoad, aIStore, aRStore, aPush, aBin, aBinL, aShL, aUn, aIf, aIc, aGet, aPut, aIald, aBald, aAald, aIast, aBast, aAast, aAlen, aCopy, aCallV, aCallC, aCallI, aRet, aCat, aMax, aMin, aDiv, aRem, aI2l, aL2i, aNul, aSwS, aSw, aInc, aDup, aDup2, aPop1, aIret, aAret, aVret, aLen, aFk, aFT, Value.category, m_sh, m_p, e5, q4, ts, ns, l4, g1, r_isThing, e8, g2, e6, ix, q5 m (by omega), r_in, c3, toNat_nI (show 24 * s + m < 2 ^ 31 by omega), nI_lt0 (show 24 * s + m < 2 ^ 31 by omega), show ¬ 96 ≤ 24 * s + m by omega, r_lays2 (show m < 10 by omega), a1, nI_1]
theorem pair_labels (v : Int32) : Pair 97 211 [.int v] := by
  intro d I x y h
  obtain ⟨f, P, T, h1, hf, hA⟩ := h.f
  have hP := hA.1.1
  have e8 := hA.1.fi.2.2.2.1
  have hS := h.2.2.2.2.1
  by_cases hv : 0 ≤ v ∧ v ≤ 3
  · obtain ⟨s, hs3, rfl⟩ := in_0n (n := 3) rfl (by omega) hv
    have hs : s < 4 := by omega
    have sa := k_sheetAt (d := d + 17) (x := x) (y := y) (I := I) hs
    have km := k_missing (d := d + 18) (x := x) (y := y) (I := I) hs
    have ts := toNat_nI (show s < 2 ^ 31 by omega)
    obtain ⟨q1, q2, ⟨a, ha, q3, q4⟩, q5⟩ := hS s hs
    by_cases h0 : I 124 s = 0
    · have c0 : I (105 + 2 * s) 1 = 0 := q1.trans h0
      refine Pair.ref 2 (-1000000002) h ?_ (fun I' hI => ?_)
      · rw [e_97]; simp [s_97, aILoad, aRLoad, aLLoad, aIStore, aRStore, aPush, aBin, aBinL, aShL, aUn, aIf, aIc, aGet, aPut, aIald, aBald, aAald, aIast, aBast, aAast, aAlen, aCopy, aCallV, aCallC, aCallI, aRet, aCat, aMax, aMin, aDiv, aRem, aI2l, aL2i, aNul, aSwS, aSw, aInc, aDup, aDup2, aPop1, aIret, aAret, aVret, aLen, aFk, aFT, Value.category, c_sh, sa, sh_sh hs, km, c0, rf_2]
      · have h0' : I' 124 s = 0 := by rw [hI 124 (by decide)]; exact h0
        rw [e_211]; simp [s_211, aILoad, aRLoad, aLLoad, aIStore, aRStore, aPush, aBin, aBinL, aShL, aUn, aIf, aIc, aGet, aPut, aIald, aBald, aAald, aIast, aBast, aAast, aAlen, aCopy, aCallV, aCallC, aCallI, aRet, aCat, aMax, aMin, aDiv, aRem, aI2l, aL2i, aNul, aSwS, aSw, aInc, aDup, aDup2, aPop1, aIret, aAret, aVret, aLen, aFk, aFT, Value.category, m_sh, m_p, r_lacks, hv, ts, h0', re_2]
    · have c0 : ¬ I (105 + 2 * s) 1 = 0 := fun z => h0 (q1.symm.trans z)
      obtain ⟨M, hM, hlt⟩ := pk_least (fun m => ¬ (m < a ∧ m < T ∧ 0 ≤ I 126 (24 * s + m) ∧ I 126 (24 * s + m) ≤ 2)) ⟨a, fun z => by omega⟩
      have hMa : M ≤ a := Nat.not_lt.mp fun z => hlt a z (fun q => by omega)
      have hlt' : ∀ j, j < M → j < a ∧ j < T ∧ 0 ≤ I 126 (24 * s + j) ∧ I 126 (24 * s + j) ≤ 2 := fun j hj => Classical.byContradiction (hlt j hj)
      obtain ⟨I1, k1, k2, k3⟩ := k_lab_loop (d := d + 17) (x := x) (y := y) (P := P) (T := T) (a := a) (s := s) (M := M) (v := nI s) (I0 := I) (σ := I 114) (N := fun j => I 126 (24 * s + j)) h1 hf hs ha q3 q5 hM hlt' hMa M 0 I (by omega) hA KG.rf
      have er : ∀ r, 113 ≤ r → I1 r = I r := fun r hr => k3 r (by omega)
      obtain ⟨I2, r1, r2, r3⟩ := r_lab_loop (d := d + 17) (x := x) (y := y) (T := T) (a := a) (s := s) (M := M) (w := 0) (I0 := I1) (N := fun j => I 126 (24 * s + j)) hs ha hP.2 (by rw [er 114 (by omega)]; exact e8) (by rw [er 125 (by omega)]; exact q4) (fun j _ => by rw [er 126 (by omega)]) hM hlt' hMa M 0 I1 (by omega) rfl (fun j _ => rfl)
      rw [er 114 (by omega)] at r2
      rw [nI_lit0] at k1 r1
      refine Pair.now (v := nI M) (P := P) (T := T) h h1 (I1 := I1) (I2 := I2) ?_ ?_ k3 (fun j hj _ _ => r3 j hj) (by rw [r2]; exact k2)
      · rw [e_97, ← k1]; simp [s_97, aILoad, aRLoad, aLLoad, aIStore, aRStore, aPush, aBin, aBinL, aShL, aUn, aIf, aIc, aGet, aPut, aIald, aBald, aAald, aIast, aBast, aAast, aAlen, aCopy, aCallV, aCallC, aCallI, aRet, aCat, aMax, aMin, aDiv, aRem, aI2l, aL2i, aNul, aSwS, aSw, aInc, aDup, aDup2, aPop1, aIret, aAret, aVret, aLen, aFk, aFT, Value.category, c_sh, sa, sh_sh hs, km, c0]
      · have h0' : ¬ I1 124 s = 0 := by rw [er 124 (by omega)]; exact h0
        rw [e_211, ← r1]; simp [s_211, aILoad, aRLoad, aLLoad, aIStore, aRStore, aPush, aBin, aBinL, aShL, aUn, aIf, aIc, aGet, aPut, aIald, aBald, aAald, aIast, aBast, aAast, aAlen, aCopy, aCallV, aCallC, aCallI, aRet, aCat, aMax, aMin, aDiv, aRem, aI2l, aL2i, aNul, aSwS, aSw, aInc, aDup, aDup2, aPop1, aIret, aAret, aVret, aLen, aFk, aFT, Value.category, m_sh, m_p, r_lacks, hv, ts, h0']
  · have sa := k_sheetNo (d := d + 17) (x := x) (y := y) (I := I) hv
    refine Pair.ref 1 (-1000000001) h ?_ (fun I' hI => ?_)
    · rw [e_97]; simp [s_97, aILoad, aRLoad, aLLoad, aIStore, aRStore, aPush, aBin, aBinL, aShL, aUn, aIf, aIc, aGet, aPut, aIald, aBald, aAald, aIast, aBast, aAast, aAlen, aCopy, aCallV, aCallC, aCallI, aRet, aCat, aMax, aMin, aDiv, aRem, aI2l, aL2i, aNul, aSwS, aSw, aInc, aDup, aDup2, aPop1, aIret, aAret, aVret, aLen, aFk, aFT, Value.category, c_sh, sa, rf_1]
    · rw [e_211]; simp [s_211, aILoad, aRLoad, aLLoad, aIStore, aRStore, aPush, aBin, aBinL, aShL, aUn, aIf, aIc, aGet, aPut, aIald, aBald, aAald, aIast, aBast, aAast, aAlen, aCopy, aCallV, aCallC, aCallI, aRet, aCat, aMax, aMin, aDiv, aRem, aI2l, aL2i, aNul, aSwS, aSw, aInc, aDup, aDup2, aPop1, aIret, aAret, aVret, aLen, aFk, aFT, Value.category, m_sh, m_p, r_lacks, hv, re_1]
end PAIR13
