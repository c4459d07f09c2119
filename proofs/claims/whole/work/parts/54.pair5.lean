/-! the calls in pairs: thing, thingIs -/
theorem relF.addT {f P T : Nat} {I I1 : Nat → Nat → Int32} {σ σ1 : Nat → Int32} (h : relF f I σ P T) (h8 : T < 10) (a : ∀ r, r ≠ f → r ≠ f + 21 + T → I1 r = I r) (b : ∀ k, k ≠ 7 → I1 f k = I f k) (c : I1 f 7 = nI (T + 1)) (g : ∀ j, j < 7 → I1 (f + 21 + T) j = σ1 (50 + 7 * T + j))
    (i : ∀ k, k ≠ 8 → (k < 50 + 7 * T ∨ 57 + 7 * T ≤ k) → σ1 k = σ k) (i8 : σ1 8 = nI (T + 1)) : relF f I1 σ1 P (T + 1) := by
  obtain ⟨h1, h2, h3, h4, h5, h6, h7, h8', h9⟩ := h
  refine ⟨⟨h1.1, by omega⟩, ⟨by rw [b 6 (by omega)]; exact h2.1, c⟩, ⟨by rw [i 7 (by omega) (by omega)]; exact h3.1, i8⟩, fun p hp => by rw [a _ (by omega) (by omega)]; exact h4 p hp, fun p hp j hj => by rw [a _ (by omega) (by omega), i _ (by omega) (by omega)]; exact h5 p hp j hj, fun t ht j hj => ?_, fun k hk => by rw [b _ (by omega), i _ (by omega) (by omega)]; exact h7 k hk, relL_congr h8' (a _ (by omega) (by omega)) (a _ (by omega) (by omega)) (a _ (by omega) (by omega)) (fun _ _ _ => i _ (by omega) (by omega)), relL_congr h9 (a _ (by omega) (by omega)) (a _ (by omega) (by omega)) (a _ (by omega) (by omega)) (fun _ _ _ => i _ (by omega) (by omega))⟩
  by_cases z : t = T
  · subst z; exact g j hj
  · rw [a _ (by omega) (by omega), i _ (by omega) (by omega)]; exact h6 t (by omega) j hj
theorem wfS.addT {P T : Nat} {σ σ1 : Nat → Int32} (h : wfS σ P T) (hP : P ≤ 8) (h8 : T < 10) (i : ∀ k, k ≠ 8 → (k < 50 + 7 * T ∨ 57 + 7 * T ≤ k) → σ1 k = σ k) (a : ∃ q, q < P ∧ σ1 (50 + 7 * T) = nI q) (b : inR (σ1 (53 + 7 * T)) 9) (c : σ1 (55 + 7 * T) = 1 ∧ σ1 (56 + 7 * T) = -1) : wfS σ1 P (T + 1) := by
  obtain ⟨h1, h2, h3, h4⟩ := h
  refine ⟨fun p hp => ?_, fun t ht => ?_, okT_congr (fun k _ _ => i k (by omega) (by omega)) h3, fun k _ _ => by rw [i k (by omega) (by omega)]; exact h4 k (by omega) (by omega)⟩
  · rw [i _ (by omega) (by omega), i _ (by omega) (by omega), i _ (by omega) (by omega)]; exact h1 p hp
  · by_cases z : t = T
    · subst z; exact ⟨a, b, Or.inr c⟩
    · rw [i _ (by omega) (by omega), i _ (by omega) (by omega), i _ (by omega) (by omega), i _ (by omega) (by omega)]; exact h2 t (by omega)
section PAIR5
variable {d : Nat} {I : Nat → Nat → Int32} {x y : Option Nat}
theorem k_tarrive {a : Nat} {o l k g : Int32} (ha : SH[a]? = some (5, 7)) : aCall aMt (d + 1) 51 [.ref a, .int o, .int l, .int k, .int g] (HH I x y) = some (none, HH (aUpd (aUpd (aUpd (aUpd (aUpd (aUpd (aUpd I a 0 o) a 1 l) a 2 k) a 3 g) a 4 0) a 5 1) a 6 (-1)) x y) := by
  rw [e_51]
  simp [s_51, aILoad, aRLoad, aLLoad, aIStore, aRStore, aPush, aBin, aBinL, aShL, aUn, aIf, aIc, aGet, aPut, aIald, aBald, aAald, aIast, aBast, aAast, aAlen, aCopy, aCallV, aCallC, aCallI, aRet, aCat, aMax, aMin, aDiv, aRem, aI2l, aL2i, aNul, aSwS, aSw, aInc, aDup, aDup2, aPop1, aIret, aAret, aVret, aLen, aFk, aFT, Value.category, ha]
theorem pair_thing (o l k g : Int32) : Pair 69 171 [.int o, .int l, .int k, .int g] := by
  intro d I x y h
  obtain ⟨f, P, T, h1, hf, hA⟩ := h.f
  have hP := hA.1.1
  have e7 := hA.1.fi.2.2.1
  have e8 := hA.1.fi.2.2.2.1
  by_cases hp : 0 ≤ o ∧ o ≤ nI P - 1
  · obtain ⟨p, hpP, rfl⟩ := (isIx (by omega)).mp hp
    have pa := k_personAt (d := d + 17) (x := x) (y := y) hf hA.1 hpP
    by_cases hl : 0 ≤ l ∧ l ≤ 2
    · by_cases hk : 0 ≤ k ∧ k ≤ 3
      · by_cases hg : 0 ≤ g ∧ g ≤ 9
        · by_cases h10 : T = 10
          · refine Pair.ref 4 (-1000000004) h ?_ (fun I' hI => ?_)
            · rw [e_69]
              simp [s_69, aILoad, aRLoad, aLLoad, aIStore, aRStore, aPush, aBin, aBinL, aShL, aUn, aIf, aIc, aGet, aPut, aIald, aBald, aAald, aIast, aBast, aAast, aAlen, aCopy, aCallV, aCallC, aCallI, aRet, aCat, aMax, aMin, aDiv, aRem, aI2l, aL2i, aNul, aSwS, aSw, aInc, aDup, aDup2, aPop1, aIret, aAret, aVret, aLen, aFk, aFT, Value.category, c_sh, c_q, c_f h1, f_sh hf, pa, k_isIn, hl, hk, hg, hA.1.fi, h10, show ¬ nI 10 < 10 by decide, rf_4]
            · have e7' : I' 114 7 = nI P := by rw [hI 114 (by decide)]; exact e7
              have e8' : I' 114 8 = 10 := by rw [hI 114 (by decide), e8, h10]; rfl
              rw [e_171]
              simp [s_171, aILoad, aRLoad, aLLoad, aIStore, aRStore, aPush, aBin, aBinL, aShL, aUn, aIf, aIc, aGet, aPut, aIald, aBald, aAald, aIast, aBast, aAast, aAlen, aCopy, aCallV, aCallC, aCallI, aRet, aCat, aMax, aMin, aDiv, aRem, aI2l, aL2i, aNul, aSwS, aSw, aInc, aDup, aDup2, aPop1, aIret, aAret, aVret, aLen, aFk, aFT, Value.category, m_sh, m_p, r_isPerson, e7', hp, r_in, hl, hk, hg, e8', re_4]
          · have ht : T < 10 := by omega
            have lt10 : nI T < (10 : Int32) := nI_lt (b := 10) ht (by omega)
            have ne10 : ¬ nI T = 10 := fun z => h10 ((nI_eq (b := 10) (by omega) (by omega)).mp z)
            have n1 : ∀ (J : Nat → Nat → Int32) k v, aUpd J (f + 21 + T) k v f = J f := fun J k v => aUpd_ne (by omega)
            have ka := k_tarrive (d := d + 18) (I := I) (x := x) (y := y) (o := nI p) (l := l) (k := k) (g := g) (f_th hf ht)
            generalize hI0 : aUpd (aUpd (aUpd (aUpd (aUpd (aUpd (aUpd I (f + 21 + T) 0 (nI p)) (f + 21 + T) 1 l) (f + 21 + T) 2 k) (f + 21 + T) 3 g) (f + 21 + T) 4 0) (f + 21 + T) 5 1) (f + 21 + T) 6 (-1) = I0 at ka
            have ef : I0 f = I f := by rw [← hI0]; simp only [n1]
            have er : ∀ r, r ≠ f + 21 + T → I0 r = I r := fun r hr => by rw [← hI0]; simp only [aUpd_ne hr]
            generalize hJ : aUpd I0 f 7 (nI (T + 1)) = J
            have jr : ∀ r, r ≠ f → r ≠ f + 21 + T → J r = I r := fun r a b => by rw [← hJ, aUpd_ne a, er r b]
            have j114 : J 114 = I 114 := jr 114 (by omega) (by omega)
            refine Pair.now (P := P) (T := T + 1) (v := nI T) (I1 := J) (I2 := aUpd (aUpd (aUpd (aUpd (aUpd (aUpd (aUpd (aUpd J 114 (50 + 7 * T) (nI p)) 114 (50 + 7 * T + 1) l) 114 (50 + 7 * T + 2) k) 114 (50 + 7 * T + 3) g) 114 (50 + 7 * T + 4) 0) 114 (50 + 7 * T + 5) 1) 114 (50 + 7 * T + 6) (-1)) 114 8 (nI (T + 1))) h h1 ?_ ?_ (fun r hr => jr r (by omega) (by omega)) ((((((((RG.rf.upd).upd).upd).upd).upd).upd).upd).upd) ?_
            · rw [e_69, ← hJ]
              simp [s_69, aILoad, aRLoad, aLLoad, aIStore, aRStore, aPush, aBin, aBinL, aShL, aUn, aIf, aIc, aGet, aPut, aIald, aBald, aAald, aIast, aBast, aAast, aAlen, aCopy, aCallV, aCallC, aCallI, aRet, aCat, aMax, aMin, aDiv, aRem, aI2l, aL2i, aNul, aSwS, aSw, aInc, aDup, aDup2, aPop1, aIret, aAret, aVret, aLen, aFk, aFT, Value.category, c_sh, c_q, c_f h1, f_sh hf, f_p hf, f_tp hf ht, f_th hf ht, pa, k_isIn, hl, hk, hg, hA.1.fi, lt10, toNat_nI (show T < 2 ^ 31 by omega), nI_lt0 (show T < 2 ^ 31 by omega), show ¬ 10 ≤ T by omega, ka, ef, nI_1]
            · have e7' : J 114 7 = nI P := by rw [j114]; exact e7
              have e8' : J 114 8 = nI T := by rw [j114]; exact e8
              rw [e_171]
              simp [s_171, aILoad, aRLoad, aLLoad, aIStore, aRStore, aPush, aBin, aBinL, aShL, aUn, aIf, aIc, aGet, aPut, aIald, aBald, aAald, aIast, aBast, aAast, aAlen, aCopy, aCallV, aCallC, aCallI, aRet, aCat, aMax, aMin, aDiv, aRem, aI2l, aL2i, aNul, aSwS, aSw, aInc, aDup, aDup2, aPop1, aIret, aAret, aVret, aLen, aFk, aFT, Value.category, m_sh, m_p, r_isPerson, e7', hp, r_in, hl, hk, hg, e8', ne10, r_lays2 ht, aUpd_row, upd, show ¬ (8 = 50 + 7 * T) by omega, show ¬ (8 = 50 + 7 * T + 1) by omega, show ¬ (8 = 50 + 7 * T + 2) by omega, show ¬ (8 = 50 + 7 * T + 3) by omega, show ¬ (8 = 50 + 7 * T + 4) by omega, show ¬ (8 = 50 + 7 * T + 5) by omega, show ¬ (8 = 50 + 7 * T + 6) by omega, nI_1]
            · simp only [aUpd_row, j114]
              have hσ : ∀ i, i ≠ 8 → (i < 50 + 7 * T ∨ 57 + 7 * T ≤ i) → upd (upd (upd (upd (upd (upd (upd (upd (I 114) (50 + 7 * T) (nI p)) (50 + 7 * T + 1) l) (50 + 7 * T + 2) k) (50 + 7 * T + 3) g) (50 + 7 * T + 4) 0) (50 + 7 * T + 5) 1) (50 + 7 * T + 6) (-1)) 8 (nI (T + 1)) i = I 114 i := fun i a b => by
                rw [upd_ne a, upd_ne (by omega), upd_ne (by omega), upd_ne (by omega), upd_ne (by omega), upd_ne (by omega), upd_ne (by omega), upd_ne (by omega)]
              refine ⟨hA.1.addT ht jr (fun i hi => by rw [← hJ, aUpd_row, upd_ne hi, ef]) (by rw [← hJ, aUpd_row, upd_eq]) (fun j hj => ?_) hσ (upd_eq), ?_, ?_⟩
              · rw [← hJ, aUpd_ne (by omega), ← hI0]
                have : j = 0 ∨ j = 1 ∨ j = 2 ∨ j = 3 ∨ j = 4 ∨ j = 5 ∨ j = 6 := by omega
                rcases this with rfl | rfl | rfl | rfl | rfl | rfl | rfl <;> simp [aUpd_row, upd, show ¬ (50 + 7 * T = 8) by omega, show ¬ (50 + 7 * T + 1 = 8) by omega, show ¬ (50 + 7 * T + 2 = 8) by omega, show ¬ (50 + 7 * T + 3 = 8) by omega, show ¬ (50 + 7 * T + 4 = 8) by omega, show ¬ (50 + 7 * T + 5 = 8) by omega, show ¬ (50 + 7 * T + 6 = 8) by omega]
              · exact hA.2.1.cg (by rw [← hJ, aUpd_row, upd_ne (by omega), ef]) (by rw [← hJ, aUpd_row, upd_ne (by omega), ef]) (jr _ (by omega) (by omega)) (jr _ (by omega) (by omega)) (fun i hi => hσ i (by omega) (by omega))
              · refine hA.2.2.addT hP.1 ht hσ ⟨p, hpP, ?_⟩ ?_ ⟨?_, ?_⟩
                · rw [upd_ne (by omega), upd_ne (by omega), upd_ne (by omega), upd_ne (by omega), upd_ne (by omega), upd_ne (by omega), upd_ne (by omega), upd_eq]
                · rw [upd_ne (by omega), upd_ne (by omega), upd_ne (by omega), upd_ne (by omega), show 53 + 7 * T = 50 + 7 * T + 3 by omega, upd_eq]
                  obtain ⟨n, _, q1, q2⟩ := (isIn' (a := 0) (b := 9) (by omega) (by omega)).mp hg
                  exact ⟨n, q1, q2⟩
                · rw [upd_ne (by omega), upd_ne (by omega), show 55 + 7 * T = 50 + 7 * T + 5 by omega, upd_eq]
                · rw [upd_ne (by omega), show 56 + 7 * T = 50 + 7 * T + 6 by omega, upd_eq]
        · refine Pair.ref 1 (-1000000001) h ?_ (fun I' hI => ?_)
          · rw [e_69]; simp [s_69, aILoad, aRLoad, aLLoad, aIStore, aRStore, aPush, aBin, aBinL, aShL, aUn, aIf, aIc, aGet, aPut, aIald, aBald, aAald, aIast, aBast, aAast, aAlen, aCopy, aCallV, aCallC, aCallI, aRet, aCat, aMax, aMin, aDiv, aRem, aI2l, aL2i, aNul, aSwS, aSw, aInc, aDup, aDup2, aPop1, aIret, aAret, aVret, aLen, aFk, aFT, Value.category, c_sh, c_f h1, f_sh hf, pa, k_isIn, hl, hk, hg, rf_1]
          · have e7' : I' 114 7 = nI P := by rw [hI 114 (by decide)]; exact e7
            rw [e_171]; simp [s_171, aILoad, aRLoad, aLLoad, aIStore, aRStore, aPush, aBin, aBinL, aShL, aUn, aIf, aIc, aGet, aPut, aIald, aBald, aAald, aIast, aBast, aAast, aAlen, aCopy, aCallV, aCallC, aCallI, aRet, aCat, aMax, aMin, aDiv, aRem, aI2l, aL2i, aNul, aSwS, aSw, aInc, aDup, aDup2, aPop1, aIret, aAret, aVret, aLen, aFk, aFT, Value.category, m_sh, m_p, r_isPerson, e7', hp, r_in, hl, hk, hg, re_1]
      · refine Pair.ref 1 (-1000000001) h ?_ (fun I' hI => ?_)
        · rw [e_69]; simp [s_69, aILoad, aRLoad, aLLoad, aIStore, aRStore, aPush, aBin, aBinL, aShL, aUn, aIf, aIc, aGet, aPut, aIald, aBald, aAald, aIast, aBast, aAast, aAlen, aCopy, aCallV, aCallC, aCallI, aRet, aCat, aMax, aMin, aDiv, aRem, aI2l, aL2i, aNul, aSwS, aSw, aInc, aDup, aDup2, aPop1, aIret, aAret, aVret, aLen, aFk, aFT, Value.category, c_sh, c_f h1, f_sh hf, pa, k_isIn, hl, hk, rf_1]
        · have e7' : I' 114 7 = nI P := by rw [hI 114 (by decide)]; exact e7
          rw [e_171]; simp [s_171, aILoad, aRLoad, aLLoad, aIStore, aRStore, aPush, aBin, aBinL, aShL, aUn, aIf, aIc, aGet, aPut, aIald, aBald, aAald, aIast, aBast, aAast, aAlen, aCopy, aCallV, aCallC, aCallI, aRet, aCat, aMax, aMin, aDiv, aRem, aI2l, aL2i, aNul, aSwS, aSw, aInc, aDup, aDup2, aPop1, aIret, aAret, aVret, aLen, aFk, aFT, Value.category, m_sh, m_p, r_isPerson, e7', hp, r_in, hl, hk, re_1]
    · refine Pair.ref 1 (-1000000001) h ?_ (fun I' hI => ?_)
      · rw [e_69]; simp [s_69, aILoad, aRLoad, aLLoad, aIStore, aRStore, aPush, aBin, aBinL, aShL, aUn, aIf, aIc, aGet, aPut, aIald, aBald, aAald, aIast, aBast, aAast, aAlen, aCopy, aCallV, aCallC, aCallI, aRet, aCat, aMax, aMin, aDiv, aRem, aI2l, aL2i, aNul, aSwS, aSw, aInc, aDup, aDup2, aPop1, aIret, aAret, aVret, aLen, aFk, aFT, Value.category, c_sh, c_f h1, f_sh hf, pa, k_isIn, hl, rf_1]
      · have e7' : I' 114 7 = nI P := by rw [hI 114 (by decide)]; exact e7
        rw [e_171]; simp [s_171, aILoad, aRLoad, aLLoad, aIStore, aRStore, aPush, aBin, aBinL, aShL, aUn, aIf, aIc, aGet, aPut, aIald, aBald, aAald, aIast, aBast, aAast, aAlen, aCopy, aCallV, aCallC, aCallI, aRet, aCat, aMax, aMin, aDiv, aRem, aI2l, aL2i, aNul, aSwS, aSw, aInc, aDup, aDup2, aPop1, aIret, aAret, aVret, aLen, aFk, aFT, Value.category, m_sh, m_p, r_isPerson, e7', hp, r_in, hl, re_1]
  · have pa := k_personNo (d := d + 17) (x := x) (y := y) hf hA.1 hp
    refine Pair.ref 1 (-1000000001) h ?_ (fun I' hI => ?_)
    · rw [e_69]; simp [s_69, aILoad, aRLoad, aLLoad, aIStore, aRStore, aPush, aBin, aBinL, aShL, aUn, aIf, aIc, aGet, aPut, aIald, aBald, aAald, aIast, aBast, aAast, aAlen, aCopy, aCallV, aCallC, aCallI, aRet, aCat, aMax, aMin, aDiv, aRem, aI2l, aL2i, aNul, aSwS, aSw, aInc, aDup, aDup2, aPop1, aIret, aAret, aVret, aLen, aFk, aFT, Value.category, c_sh, c_f h1, f_sh hf, pa, rf_1]
    · have e7' : I' 114 7 = nI P := by rw [hI 114 (by decide)]; exact e7
      rw [e_171]; simp [s_171, aILoad, aRLoad, aLLoad, aIStore, aRStore, aPush, aBin, aBinL, aShL, aUn, aIf, aIc, aGet, aPut, aIald, aBald, aAald, aIast, aBast, aAast, aAlen, aCopy, aCallV, aCallC, aCallI, aRet, aCat, aMax, aMin, aDiv, aRem, aI2l, aL2i, aNul, aSwS, aSw, aInc, aDup, aDup2, aPop1, aIret, aAret, aVret, aLen, aFk, aFT, Value.category, m_sh, m_p, r_isPerson, e7', hp, re_1]
end PAIR5
