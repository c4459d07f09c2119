/-! the calls in pairs: person, personIs -/
theorem relF.addP {f P T : Nat} {I I1 : Nat → Nat → Int32} {σ σ1 : Nat → Int32} (h : relF f I σ P T) (h8 : P < 8) (a : ∀ r, r ≠ f → r ≠ f + 13 + P → I1 r = I r) (b : ∀ k, k ≠ 6 → I1 f k = I f k) (c : I1 f 6 = nI (P + 1)) (e : I1 (f + 13 + P) 0 = nI P) (g : ∀ j, j < 5 → I1 (f + 13 + P) (j + 1) = σ1 (10 + 5 * P + j))
    (i : ∀ k, k ≠ 7 → (k < 10 + 5 * P ∨ 15 + 5 * P ≤ k) → σ1 k = σ k) (i7 : σ1 7 = nI (P + 1)) : relF f I1 σ1 (P + 1) T := by
  obtain ⟨h1, h2, h3, h4, h5, h6, h7, h8', h9⟩ := h
  refine ⟨⟨by omega, h1.2⟩, ⟨c, by rw [b 7 (by omega)]; exact h2.2⟩, ⟨i7, by rw [i 8 (by omega) (by omega)]; exact h3.2⟩, fun p hp => ?_, fun p hp j hj => ?_, fun t ht j hj => by rw [a _ (by omega) (by omega), i _ (by omega) (by omega)]; exact h6 t ht j hj, fun k hk => by rw [b _ (by omega), i _ (by omega) (by omega)]; exact h7 k hk, relL_congr h8' (a _ (by omega) (by omega)) (a _ (by omega) (by omega)) (a _ (by omega) (by omega)) (fun _ _ _ => i _ (by omega) (by omega)), relL_congr h9 (a _ (by omega) (by omega)) (a _ (by omega) (by omega)) (a _ (by omega) (by omega)) (fun _ _ _ => i _ (by omega) (by omega))⟩
  · by_cases z : p = P
    · subst z; exact e
    · rw [a _ (by omega) (by omega)]; exact h4 p hp
  · by_cases z : p = P
    · subst z; exact g j hj
    · rw [a _ (by omega) (by omega), i _ (by omega) (by omega)]; exact h5 p (by omega) j hj
theorem wfS.addP {P T : Nat} {σ σ1 : Nat → Int32} (h : wfS σ P T) (h8 : P < 8) (i : ∀ k, k ≠ 7 → (k < 10 + 5 * P ∨ 15 + 5 * P ≤ k) → σ1 k = σ k) (a : inR (σ1 (10 + 5 * P)) 6) (b : inR (σ1 (12 + 5 * P)) 99) (c : inR (σ1 (13 + 5 * P)) 9) : wfS σ1 (P + 1) T := by
  obtain ⟨h1, h2, h3, h4⟩ := h
  refine ⟨fun p hp => ?_, fun t ht => ?_, okT_congr (fun k _ _ => i k (by omega) (by omega)) h3, fun k _ _ => by rw [i k (by omega) (by omega)]; exact h4 k (by omega) (by omega)⟩
  · by_cases z : p = P
    · subst z; exact ⟨a, b, c⟩
    · rw [i _ (by omega) (by omega), i _ (by omega) (by omega), i _ (by omega) (by omega)]; exact h1 p (by omega)
  · rw [i _ (by omega) (by omega), i _ (by omega) (by omega), i _ (by omega) (by omega), i _ (by omega) (by omega)]
    obtain ⟨⟨q, q1, q2⟩, r⟩ := h2 t ht
    exact ⟨⟨q, by omega, q2⟩, r⟩
section PAIR2
variable {d : Nat} {I : Nat → Nat → Int32} {x y : Option Nat}
theorem k_arrive {a : Nat} {km : Int32} (ha : SH[a]? = some (2, 6)) : aCall aMt (d + 2) 29 [.ref a, .int km] (HH I x y) = some (none, HH (aUpd (aUpd (aUpd (aUpd (aUpd I a 1 (km / 10)) a 2 (km - km / 10 * 10)) a 3 10) a 4 0) a 5 (-1)) x y) := by
  have h : ∀ {d : Nat} {I : Nat → Nat → Int32}, aCall aMt (d + 1) 30 [.ref a, .int km] (HH I x y) = some (none, HH (aUpd (aUpd I a 1 (km / 10)) a 2 (km - km / 10 * 10)) x y) := by
    intro d I
    rw [e_30]; simp [s_30, aILoad, aRLoad, aLLoad, aIStore, aRStore, aPush, aBin, aBinL, aShL, aUn, aIf, aIc, aGet, aPut, aIald, aBald, aAald, aIast, aBast, aAast, aAlen, aCopy, aCallV, aCallC, aCallI, aRet, aCat, aMax, aMin, aDiv, aRem, aI2l, aL2i, aNul, aSwS, aSw, aInc, aDup, aDup2, aPop1, aIret, aAret, aVret, aLen, aFk, aFT, Value.category, ha]
  rw [e_29]
  simp [s_29, aILoad, aRLoad, aLLoad, aIStore, aRStore, aPush, aBin, aBinL, aShL, aUn, aIf, aIc, aGet, aPut, aIald, aBald, aAald, aIast, aBast, aAast, aAlen, aCopy, aCallV, aCallC, aCallI, aRet, aCat, aMax, aMin, aDiv, aRem, aI2l, aL2i, aNul, aSwS, aSw, aInc, aDup, aDup2, aPop1, aIret, aAret, aVret, aLen, aFk, aFT, Value.category, ha, h]
theorem km_kind {km : Int32} (h : 0 ≤ km ∧ km ≤ 69) : inR (km / 10) 6 := by
  obtain ⟨n, _, h1, rfl⟩ := (isIn' (v := km) (a := 0) (b := 69) (by omega) (by omega)).mp h
  refine ⟨n / 10, by omega, ?_⟩
  rw [show (10 : Int32) = nI 10 from rfl, pk_div (by omega) (by omega) (by omega)]
theorem pair_person (km : Int32) : Pair 64 164 [.int km] := by
  intro d I x y h
  obtain ⟨f, P, T, h1, hf, hA⟩ := h.f
  have hP := hA.1.1
  by_cases hk : 0 ≤ km ∧ km ≤ 69
  · by_cases h8 : P = 8
    · refine Pair.ref 4 (-1000000004) h ?_ (fun I' hI => ?_)
      · rw [e_64]
        simp [s_64, aILoad, aRLoad, aLLoad, aIStore, aRStore, aPush, aBin, aBinL, aShL, aUn, aIf, aIc, aGet, aPut, aIald, aBald, aAald, aIast, aBast, aAast, aAlen, aCopy, aCallV, aCallC, aCallI, aRet, aCat, aMax, aMin, aDiv, aRem, aI2l, aL2i, aNul, aSwS, aSw, aInc, aDup, aDup2, aPop1, aIret, aAret, aVret, aLen, aFk, aFT, Value.category, c_sh, c_q, c_f h1, f_sh hf, k_isKN, hk, hA.1.fi, h8, show ¬ nI 8 < 8 by decide, rf_4]
      · have e : I' 114 7 = 8 := by rw [hI 114 (by decide), hA.1.fi.2.2.1, h8]; rfl
        rw [e_164]
        simp [s_164, aILoad, aRLoad, aLLoad, aIStore, aRStore, aPush, aBin, aBinL, aShL, aUn, aIf, aIc, aGet, aPut, aIald, aBald, aAald, aIast, aBast, aAast, aAlen, aCopy, aCallV, aCallC, aCallI, aRet, aCat, aMax, aMin, aDiv, aRem, aI2l, aL2i, aNul, aSwS, aSw, aInc, aDup, aDup2, aPop1, aIret, aAret, aVret, aLen, aFk, aFT, Value.category, m_sh, m_p, r_isKind, hk, e, re_4]
    · have hp8 : P < 8 := by omega
      have lt8 : nI P < (8 : Int32) := nI_lt (b := 8) hp8 (by omega)
      have ka := k_arrive (d := d + 17) (I := I) (x := x) (y := y) (km := km) (f_pe hf hp8)
      have n1 : ∀ (J : Nat → Nat → Int32) k v, aUpd J (f + 13 + P) k v f = J f := fun J k v => aUpd_ne (by omega)
      have ne8 : ¬ nI P = 8 := fun z => h8 ((nI_eq (b := 8) (by omega) (by omega)).mp z)
      refine Pair.now (P := P + 1) (T := T) (v := nI P) (I1 := aUpd (aUpd (aUpd (aUpd (aUpd (aUpd I (f + 13 + P) 1 (km / 10)) (f + 13 + P) 2 (km - km / 10 * 10)) (f + 13 + P) 3 10) (f + 13 + P) 4 0) (f + 13 + P) 5 (-1)) f 6 (nI (P + 1)))
        (I2 := aUpd (aUpd (aUpd (aUpd (aUpd (aUpd (aUpd (aUpd (aUpd (aUpd (aUpd (aUpd I (f + 13 + P) 1 (km / 10)) (f + 13 + P) 2 (km - km / 10 * 10)) (f + 13 + P) 3 10) (f + 13 + P) 4 0) (f + 13 + P) 5 (-1)) f 6 (nI (P + 1))) 114 (10 + 5 * P) (km / 10)) 114 (10 + 5 * P + 1) (km - km / 10 * 10)) 114 (10 + 5 * P + 2) 10) 114 (10 + 5 * P + 3) 0) 114 (10 + 5 * P + 4) (-1)) 114 7 (nI (P + 1))) h h1 ?_ ?_ ?_ ?_ ?_
      · rw [e_64]
        simp [s_64, aILoad, aRLoad, aLLoad, aIStore, aRStore, aPush, aBin, aBinL, aShL, aUn, aIf, aIc, aGet, aPut, aIald, aBald, aAald, aIast, aBast, aAast, aAlen, aCopy, aCallV, aCallC, aCallI, aRet, aCat, aMax, aMin, aDiv, aRem, aI2l, aL2i, aNul, aSwS, aSw, aInc, aDup, aDup2, aPop1, aIret, aAret, aVret, aLen, aFk, aFT, Value.category, c_sh, c_q, c_f h1, f_sh hf, f_p hf, f_pp hf hp8, f_pe hf hp8, k_isKN, hk, hA.1.fi, lt8, toNat_nI (show P < 2 ^ 31 by omega), nI_lt0 (show P < 2 ^ 31 by omega), show ¬ 8 ≤ P by omega, ka, n1, nI_1]
      · generalize hJ : aUpd (aUpd (aUpd (aUpd (aUpd (aUpd I (f + 13 + P) 1 (km / 10)) (f + 13 + P) 2 (km - km / 10 * 10)) (f + 13 + P) 3 10) (f + 13 + P) 4 0) (f + 13 + P) 5 (-1)) f 6 (nI (P + 1)) = J
        have e : J 114 7 = nI P := by
          rw [← hJ, aUpd_ne (show 114 ≠ f by omega)]
          simp only [aUpd_ne (show 114 ≠ f + 13 + P by omega)]
          exact hA.1.fi.2.2.1
        rw [e_164]
        simp [s_164, aILoad, aRLoad, aLLoad, aIStore, aRStore, aPush, aBin, aBinL, aShL, aUn, aIf, aIc, aGet, aPut, aIald, aBald, aAald, aIast, aBast, aAast, aAlen, aCopy, aCallV, aCallC, aCallI, aRet, aCat, aMax, aMin, aDiv, aRem, aI2l, aL2i, aNul, aSwS, aSw, aInc, aDup, aDup2, aPop1, aIret, aAret, aVret, aLen, aFk, aFT, Value.category, m_sh, m_p, r_isKind, hk, e, ne8, r_lays1 hp8, aUpd_row, upd, show ¬ (7 = 10 + 5 * P) by omega, show ¬ (7 = 10 + 5 * P + 1) by omega, show ¬ (7 = 10 + 5 * P + 2) by omega, show ¬ (7 = 10 + 5 * P + 3) by omega, show ¬ (7 = 10 + 5 * P + 4) by omega, nI_1]
      · intro r hr
        rw [aUpd_ne (show r ≠ f by omega)]
        simp only [aUpd_ne (show r ≠ f + 13 + P by omega)]
      · exact (((((RG.rf.upd).upd).upd).upd).upd).upd
      · have hσ : ∀ k, k ≠ 7 → (k < 10 + 5 * P ∨ 15 + 5 * P ≤ k) → upd (upd (upd (upd (upd (upd (I 114) (10 + 5 * P) (km / 10)) (10 + 5 * P + 1) (km - km / 10 * 10)) (10 + 5 * P + 2) 10) (10 + 5 * P + 3) 0) (10 + 5 * P + 4) (-1)) 7 (nI (P + 1)) k = I 114 k := fun k a b => by
          rw [upd_ne a, upd_ne (by omega), upd_ne (by omega), upd_ne (by omega), upd_ne (by omega), upd_ne (by omega)]
        have e114 : ∀ k v, (aUpd (aUpd (aUpd (aUpd (aUpd (aUpd I (f + 13 + P) 1 (km / 10)) (f + 13 + P) 2 (km - km / 10 * 10)) (f + 13 + P) 3 10) (f + 13 + P) 4 0) (f + 13 + P) 5 (-1)) f k v) 114 = I 114 := fun k v => by
          rw [aUpd_ne (show 114 ≠ f by omega)]; simp only [aUpd_ne (show 114 ≠ f + 13 + P by omega)]
        simp only [aUpd_row, e114]
        refine ⟨hA.1.addP hp8 (fun r a b => by rw [aUpd_ne a]; simp only [aUpd_ne b]) (fun k hk => by rw [aUpd_row, upd_ne hk]; simp only [n1]) (by rw [aUpd_row, upd_eq]) ?_ (fun j hj => ?_) hσ (upd_eq), ?_, ?_⟩
        · rw [aUpd_ne (by omega)]; simp [aUpd_row, upd]; exact hA.1.k.1 P hp8
        · rw [aUpd_ne (by omega)]
          have : j = 0 ∨ j = 1 ∨ j = 2 ∨ j = 3 ∨ j = 4 := by omega
          rcases this with rfl | rfl | rfl | rfl | rfl <;> simp [aUpd_row, upd, show ¬ (10 + 5 * P = 7) by omega, show ¬ (10 + 5 * P + 1 = 7) by omega, show ¬ (10 + 5 * P + 2 = 7) by omega, show ¬ (10 + 5 * P + 3 = 7) by omega, show ¬ (10 + 5 * P + 4 = 7) by omega]
        · exact hA.2.1.cg (by rw [aUpd_row, upd_ne (by omega)]; simp only [n1]) (by rw [aUpd_row, upd_ne (by omega)]; simp only [n1]) (by rw [aUpd_ne (by omega)]; simp only [aUpd_ne (show f + 11 ≠ f + 13 + P by omega)]) (by rw [aUpd_ne (by omega)]; simp only [aUpd_ne (show f + 12 ≠ f + 13 + P by omega)]) (fun k hk => hσ k (by omega) (by omega))
        · refine hA.2.2.addP hp8 hσ ?_ ?_ ?_
          · rw [upd_ne (by omega), upd_ne (by omega), upd_ne (by omega), upd_ne (by omega), upd_ne (by omega), upd_eq]; exact km_kind hk
          · rw [upd_ne (by omega), upd_ne (by omega), upd_ne (by omega), show 12 + 5 * P = 10 + 5 * P + 2 by omega, upd_eq]; exact ⟨10, by omega, rfl⟩
          · rw [upd_ne (by omega), upd_ne (by omega), show 13 + 5 * P = 10 + 5 * P + 3 by omega, upd_eq]; exact ⟨0, by omega, rfl⟩
  · refine Pair.ref 1 (-1000000001) h ?_ (fun I' hI => ?_)
    · rw [e_64]
      simp [s_64, aILoad, aRLoad, aLLoad, aIStore, aRStore, aPush, aBin, aBinL, aShL, aUn, aIf, aIc, aGet, aPut, aIald, aBald, aAald, aIast, aBast, aAast, aAlen, aCopy, aCallV, aCallC, aCallI, aRet, aCat, aMax, aMin, aDiv, aRem, aI2l, aL2i, aNul, aSwS, aSw, aInc, aDup, aDup2, aPop1, aIret, aAret, aVret, aLen, aFk, aFT, Value.category, c_sh, c_q, k_isKN, hk, rf_1]
    · rw [e_164]
      simp [s_164, aILoad, aRLoad, aLLoad, aIStore, aRStore, aPush, aBin, aBinL, aShL, aUn, aIf, aIc, aGet, aPut, aIald, aBald, aAald, aIast, aBast, aAast, aAlen, aCopy, aCallV, aCallC, aCallI, aRet, aCat, aMax, aMin, aDiv, aRem, aI2l, aL2i, aNul, aSwS, aSw, aInc, aDup, aDup2, aPop1, aIret, aAret, aVret, aLen, aFk, aFT, Value.category, m_sh, m_p, r_isKind, hk, re_1]
end PAIR2
