/-! the calls in pairs: sheet, put -/
theorem relS.lay {I J I2 : Nat → Nat → Int32} {s m : Nat} {b : Int32} (h : relS I I) (hs : s < 4) (hb : isBits b) (hm : m ≤ 24) (hJ : J = aFil (aUpd (aUpd I (105 + 2 * s) 1 b) (105 + 2 * s) 2 (nI m)) (106 + 2 * s) 0 24 0) (h2 : I2 = aFil (aUpd (aUpd J 124 s b) 125 s (nI m)) 126 (24 * s) (24 * s + 24) 0) : relS I2 I2 := by
  have a1 : ∀ r, r < 113 → I2 r = J r := fun r hr => by rw [h2, aFil_ne (by omega), aUpd_ne (by omega), aUpd_ne (by omega)]
  have a2 : ∀ r, r ≠ 105 + 2 * s → r ≠ 106 + 2 * s → J r = I r := fun r p q => by rw [hJ, aFil_ne q, aUpd_ne p, aUpd_ne p]
  have b1 : I2 124 = upd (I 124) s b := by rw [h2, aFil_ne (by omega), aUpd_ne (by omega), aUpd_row, a2 124 (by omega) (by omega)]
  have b2 : I2 125 = upd (I 125) s (nI m) := by rw [h2, aFil_ne (by omega), aUpd_row, aUpd_ne (by omega), a2 125 (by omega) (by omega)]
  have b3 : ∀ j, (j < 24 * s ∨ 24 * s + 24 ≤ j) → I2 126 j = I 126 j := fun j hj => by rw [h2, aFil_out hj, aUpd_ne (by omega), aUpd_ne (by omega), a2 126 (by omega) (by omega)]
  intro i hi
  by_cases e : i = s
  · subst e
    have c1 : J (105 + 2 * i) = upd (upd (I (105 + 2 * i)) 1 b) 2 (nI m) := by rw [hJ, aFil_ne (by omega), aUpd_row, aUpd_row]
    refine ⟨by rw [a1 (105 + 2 * i) (by omega), c1, b1, upd_eq, upd_ne (by omega), upd_eq], by rw [b1, upd_eq]; exact hb, ⟨m, hm, by rw [a1 (105 + 2 * i) (by omega), c1, upd_eq], by rw [b2, upd_eq]⟩, fun j hj => ?_⟩
    rw [a1 (106 + 2 * i) (by omega), hJ, aFil_in (by omega) hj, h2, aFil_in (by omega) (by omega)]
  · obtain ⟨p1, p2, p3, p4⟩ := h i hi
    have c5 : I2 (105 + 2 * i) = I (105 + 2 * i) := by rw [a1 (105 + 2 * i) (by omega), a2 (105 + 2 * i) (by omega) (by omega)]
    have c6 : I2 (106 + 2 * i) = I (106 + 2 * i) := by rw [a1 (106 + 2 * i) (by omega), a2 (106 + 2 * i) (by omega) (by omega)]
    rw [c5, c6, b1, b2, upd_ne e, upd_ne e]
    exact ⟨p1, p2, p3, fun j hj => by rw [b3 _ (by omega)]; exact p4 j hj⟩
theorem cut_8 (z : Int32) : (z <<< (24 : Int32)) >>> (24 : Int32) = z.toInt8.toInt32 := by
  have h1 : (z <<< (24 : Int32)).toInt = Int.bmod ((z.toBitVec.toNat * 2 ^ 24 % 2 ^ 32 : Nat) : Int) (2 ^ 32) := by rw [← pk_shl z 24 24 (by decide)]; exact BitVec.toInt_eq_toNat_bmod _
  have h2 : z.toInt = Int.bmod ((z.toBitVec.toNat : Nat) : Int) (2 ^ 32) := BitVec.toInt_eq_toNat_bmod _
  have hn := z.toBitVec.isLt
  apply Int32.toInt_inj.mp
  rw [pk_shr _ _ 24 (by decide), Int8.toInt_toInt32, Int32.toInt_toInt8, h1, h2, Int.shiftRight_eq_div_pow, show ((2 ^ 24 : Nat) : Int) = 16777216 from rfl]
  generalize z.toBitVec.toNat = n at *
  simp only [Int.bmod]
  split <;> split <;> split <;> omega
theorem cut_16 (z : Int32) : (z <<< (16 : Int32)) >>> (16 : Int32) = z.toInt16.toInt32 := by
  have h1 : (z <<< (16 : Int32)).toInt = Int.bmod ((z.toBitVec.toNat * 2 ^ 16 % 2 ^ 32 : Nat) : Int) (2 ^ 32) := by rw [← pk_shl z 16 16 (by decide)]; exact BitVec.toInt_eq_toNat_bmod _
  have h2 : z.toInt = Int.bmod ((z.toBitVec.toNat : Nat) : Int) (2 ^ 32) := BitVec.toInt_eq_toNat_bmod _
  have hn := z.toBitVec.isLt
  apply Int32.toInt_inj.mp
  rw [pk_shr _ _ 16 (by decide), Int16.toInt_toInt32, Int32.toInt_toInt16, h1, h2, Int.shiftRight_eq_div_pow, show ((2 ^ 16 : Nat) : Int) = 65536 from rfl]
  generalize z.toBitVec.toNat = n at *
  simp only [Int.bmod]
  split <;> split <;> split <;> omega
theorem cut_32 (z : Int32) : (z <<< (0 : Int32)) >>> (0 : Int32) = z := by simp
def sCut (b z : Int32) : Int32 := if b = 8 then z.toInt8.toInt32 else if b = 16 then z.toInt16.toInt32 else z
theorem relS.put {I J I2 : Nat → Nat → Int32} {s p : Nat} {z : Int32} (h : relS I I) (hs : s < 4) (hp : p < 24) (hJ : J = aUpd I (106 + 2 * s) p z) (h2 : I2 = aUpd J 126 (24 * s + p) z) : relS I2 I2 := by
  have a1 : ∀ r, r ≠ 126 → I2 r = J r := fun r hr => by rw [h2, aUpd_ne hr]
  have a2 : ∀ r, r ≠ 106 + 2 * s → J r = I r := fun r q => by rw [hJ, aUpd_ne q]
  have b3 : I2 126 = upd (I 126) (24 * s + p) z := by rw [h2, aUpd_row, a2 126 (by omega)]
  intro i hi
  obtain ⟨p1, p2, p3, p4⟩ := h i hi
  rw [a1 _ (by omega), a1 124 (by omega), a1 125 (by omega), a1 (106 + 2 * i) (by omega), a2 _ (by omega), a2 124 (by omega), a2 125 (by omega), b3]
  refine ⟨p1, p2, p3, fun j hj => ?_⟩
  by_cases e : i = s
  · subst e
    rw [hJ, aUpd_row]
    by_cases e2 : j = p
    · subst e2; rw [upd_eq, upd_eq]
    · rw [upd_ne e2, upd_ne (by omega)]; exact p4 j hj
  · rw [a2 _ (by omega), upd_ne (by omega)]; exact p4 j hj
section SHEET2
variable {d : Nat} {I : Nat → Nat → Int32} {x y : Option Nat}
theorem pair_sheet (v b n : Int32) : Pair 94 207 [.int v, .int b, .int n] := by
  intro d I x y h
  have hS := h.2.2.2.2.1
  by_cases hv : 0 ≤ v ∧ v ≤ 3
  · obtain ⟨s, hs3, rfl⟩ := in_0n (n := 3) rfl (by omega) hv
    have hs : s < 4 := by omega
    have sa := k_sheetAt (d := d + 17) (x := x) (y := y) (I := I) hs
    have ts := toNat_nI (show s < 2 ^ 31 by omega)
    have ns := nI_lt0 (show s < 2 ^ 31 by omega)
    have l4 : ¬ 4 ≤ s := by omega
    have good : ∀ (m : Nat), m ≤ 24 → isBits b → (b = 0 → m = 0) → (¬ b = 0 → n = nI m) → ∃ v' I1 x1 y1 I2, aCall aMt (d + 20) 94 [.ref 0, .int (nI s), .int b, .int n] (HH I x y) = some (some (.int v'), HH I1 x1 y1) ∧ aCall aMt (d + 20) 207 [.ref 113, .int (nI s), .int b, .int n] (HH I1 x1 y1) = some (some (.int v'), HH I2 x1 y1) ∧ Rel I2 := by
      intro m hm hb hb0 hbn
      have kl := k_lay (d := d + 17) (x := x) (y := y) (I := I) (b := b) (n := nI m) hs
      generalize hJ : aFil (aUpd (aUpd I (105 + 2 * s) 1 b) (105 + 2 * s) 2 (nI m)) (106 + 2 * s) 0 24 0 = J at kl
      have rz := r_zero_loop (d := d + 19) (x := x) (y := y) (I := aUpd (aUpd J 124 s b) 125 s (nI m)) (b := b) (n := n) hs 24 0 (by omega)
      rw [show 24 * s + 0 = 24 * s from rfl, aFil_0, nI_lit0] at rz
      refine Pair.sh (v := 1) (I1 := J) (I2 := aFil (aUpd (aUpd J 124 s b) 125 s (nI m)) 126 (24 * s) (24 * s + 24) 0) h ?_ ?_ (fun r hr => ?_) (fun r a b c e g => ?_) (relS.lay hS hs hb hm hJ.symm rfl)
      · rw [e_94]
        by_cases h0 : b = 0
        · have := hb0 h0
          subst this
          subst h0
          rw [nI_lit0] at kl
          simp [s_94, aILoad, aRLoad, aLLoad, aIStore, aRStore, aPush, aBin, aBinL, aShL, aUn, aIf, aIc, aGet, aPut, aIald, aBald, aAald, aIast, aBast, aAast, aAlen, aCopy, aCallV, aCallC, aCallI, aRet, aCat, aMax, aMin, aDiv, aRem, aI2l, aL2i, aNul, aSwS, aSw, aInc, aDup, aDup2, aPop1, aIret, aAret, aVret, aLen, aFk, aFT, Value.category, c_sh, sa, sh_sh hs, kl]
        · have hn := hbn h0
          subst hn
          have n24 : nI m ≤ 24 := nI_le (b := 24) hm (by omega)
          rcases hb.resolve_left h0 with rfl | rfl | rfl <;> simp [s_94, aILoad, aRLoad, aLLoad, aIStore, aRStore, aPush, aBin, aBinL, aShL, aUn, aIf, aIc, aGet, aPut, aIald, aBald, aAald, aIast, aBast, aAast, aAlen, aCopy, aCallV, aCallC, aCallI, aRet, aCat, aMax, aMin, aDiv, aRem, aI2l, aL2i, aNul, aSwS, aSw, aInc, aDup, aDup2, aPop1, aIret, aAret, aVret, aLen, aFk, aFT, Value.category, c_sh, sa, sh_sh hs, kl, nI_pos' (n := m) (by omega), n24]
      · rw [e_207]
        by_cases h0 : b = 0
        · have := hb0 h0
          subst this
          subst h0
          rw [nI_lit0] at rz ⊢
          rw [← rz]
          simp [s_207, aILoad, aRLoad, aLLoad, aIStore, aRStore, aPush, aBin, aBinL, aShL, aUn, aIf, aIc, aGet, aPut, aIald, aBald, aAald, aIast, aBast, aAast, aAlen, aCopy, aCallV, aCallC, aCallI, aRet, aCat, aMax, aMin, aDiv, aRem, aI2l, aL2i, aNul, aSwS, aSw, aInc, aDup, aDup2, aPop1, aIret, aAret, aVret, aLen, aFk, aFT, Value.category, m_sh, m_p, r_isSheet, hv, ts, ns, l4, hs]
        · have hn := hbn h0
          subst hn
          have n24 : nI m ≤ 24 := nI_le (b := 24) hm (by omega)
          rw [← rz]
          rcases hb.resolve_left h0 with rfl | rfl | rfl <;> simp [s_207, aILoad, aRLoad, aLLoad, aIStore, aRStore, aPush, aBin, aBinL, aShL, aUn, aIf, aIc, aGet, aPut, aIald, aBald, aAald, aIast, aBast, aAast, aAlen, aCopy, aCallV, aCallC, aCallI, aRet, aCat, aMax, aMin, aDiv, aRem, aI2l, aL2i, aNul, aSwS, aSw, aInc, aDup, aDup2, aPop1, aIret, aAret, aVret, aLen, aFk, aFT, Value.category, m_sh, m_p, r_isSheet, hv, ts, ns, l4, hs, nI_pos' (n := m) (by omega), n24]
      · rw [aFil_ne (by omega), aUpd_ne (by omega), aUpd_ne (by omega), ← hJ, aFil_ne (by omega), aUpd_ne (by omega), aUpd_ne (by omega)]
      · rw [aFil_ne (by omega), aUpd_ne (by omega), aUpd_ne (by omega), ← hJ, aFil_ne (by omega), aUpd_ne (by omega), aUpd_ne (by omega)]
    by_cases h0 : b = 0
    · exact good 0 (by omega) (Or.inl h0) (fun _ => rfl) (fun z => absurd h0 z)
    · by_cases hb : b = 8 ∨ b = 16 ∨ b = 32
      · by_cases hn0 : n < 0
        · have hn0' : ¬ 0 ≤ n := Int32.not_le.mpr hn0
          refine Pair.ref 3 (-1000000003) h ?_ (fun I' hI => ?_)
          · rw [e_94]; rcases hb with rfl | rfl | rfl <;> simp [s_94, aILoad, aRLoad, aLLoad, aIStore, aRStore, aPush, aBin, aBinL, aShL, aUn, aIf, aIc, aGet, aPut, aIald, aBald, aAald, aIast, aBast, aAast, aAlen, aCopy, aCallV, aCallC, aCallI, aRet, aCat, aMax, aMin, aDiv, aRem, aI2l, aL2i, aNul, aSwS, aSw, aInc, aDup, aDup2, aPop1, aIret, aAret, aVret, aLen, aFk, aFT, Value.category, c_sh, sa, hn0', rf_3]
          · rw [e_207]; rcases hb with rfl | rfl | rfl <;> simp [s_207, aILoad, aRLoad, aLLoad, aIStore, aRStore, aPush, aBin, aBinL, aShL, aUn, aIf, aIc, aGet, aPut, aIald, aBald, aAald, aIast, aBast, aAast, aAlen, aCopy, aCallV, aCallC, aCallI, aRet, aCat, aMax, aMin, aDiv, aRem, aI2l, aL2i, aNul, aSwS, aSw, aInc, aDup, aDup2, aPop1, aIret, aAret, aVret, aLen, aFk, aFT, Value.category, m_sh, r_isSheet, hv, hn0', re_3]
        · have hn0' : 0 ≤ n := Int32.not_lt.mp hn0
          by_cases hn : n ≤ 24
          · obtain ⟨m, hm, rfl⟩ := in_0n (n := 24) rfl (by omega) ⟨hn0', hn⟩
            exact good m hm (Or.inr hb) (fun z => absurd z h0) (fun _ => rfl)
          · refine Pair.ref 1 (-1000000001) h ?_ (fun I' hI => ?_)
            · rw [e_94]; rcases hb with rfl | rfl | rfl <;> simp [s_94, aILoad, aRLoad, aLLoad, aIStore, aRStore, aPush, aBin, aBinL, aShL, aUn, aIf, aIc, aGet, aPut, aIald, aBald, aAald, aIast, aBast, aAast, aAlen, aCopy, aCallV, aCallC, aCallI, aRet, aCat, aMax, aMin, aDiv, aRem, aI2l, aL2i, aNul, aSwS, aSw, aInc, aDup, aDup2, aPop1, aIret, aAret, aVret, aLen, aFk, aFT, Value.category, c_sh, sa, hn0', hn, rf_1]
            · rw [e_207]; rcases hb with rfl | rfl | rfl <;> simp [s_207, aILoad, aRLoad, aLLoad, aIStore, aRStore, aPush, aBin, aBinL, aShL, aUn, aIf, aIc, aGet, aPut, aIald, aBald, aAald, aIast, aBast, aAast, aAlen, aCopy, aCallV, aCallC, aCallI, aRet, aCat, aMax, aMin, aDiv, aRem, aI2l, aL2i, aNul, aSwS, aSw, aInc, aDup, aDup2, aPop1, aIret, aAret, aVret, aLen, aFk, aFT, Value.category, m_sh, r_isSheet, hv, hn0', hn, re_1]
      · have b8 : ¬ b = 8 := fun z => hb (Or.inl z)
        have b16 : ¬ b = 16 := fun z => hb (Or.inr (Or.inl z))
        have b32 : ¬ b = 32 := fun z => hb (Or.inr (Or.inr z))
        refine Pair.ref 1 (-1000000001) h ?_ (fun I' hI => ?_)
        · rw [e_94]; simp [s_94, aILoad, aRLoad, aLLoad, aIStore, aRStore, aPush, aBin, aBinL, aShL, aUn, aIf, aIc, aGet, aPut, aIald, aBald, aAald, aIast, aBast, aAast, aAlen, aCopy, aCallV, aCallC, aCallI, aRet, aCat, aMax, aMin, aDiv, aRem, aI2l, aL2i, aNul, aSwS, aSw, aInc, aDup, aDup2, aPop1, aIret, aAret, aVret, aLen, aFk, aFT, Value.category, c_sh, sa, h0, b8, b16, b32, rf_1]
        · rw [e_207]; simp [s_207, aILoad, aRLoad, aLLoad, aIStore, aRStore, aPush, aBin, aBinL, aShL, aUn, aIf, aIc, aGet, aPut, aIald, aBald, aAald, aIast, aBast, aAast, aAlen, aCopy, aCallV, aCallC, aCallI, aRet, aCat, aMax, aMin, aDiv, aRem, aI2l, aL2i, aNul, aSwS, aSw, aInc, aDup, aDup2, aPop1, aIret, aAret, aVret, aLen, aFk, aFT, Value.category, m_sh, r_isSheet, hv, h0, b8, b16, b32, re_1]
  · have sa := k_sheetNo (d := d + 17) (x := x) (y := y) (I := I) hv
    refine Pair.ref 1 (-1000000001) h ?_ (fun I' hI => ?_)
    · rw [e_94]; simp [s_94, aILoad, aRLoad, aLLoad, aIStore, aRStore, aPush, aBin, aBinL, aShL, aUn, aIf, aIc, aGet, aPut, aIald, aBald, aAald, aIast, aBast, aAast, aAlen, aCopy, aCallV, aCallC, aCallI, aRet, aCat, aMax, aMin, aDiv, aRem, aI2l, aL2i, aNul, aSwS, aSw, aInc, aDup, aDup2, aPop1, aIret, aAret, aVret, aLen, aFk, aFT, Value.category, c_sh, sa, rf_1]
    · rw [e_207]; simp [s_207, aILoad, aRLoad, aLLoad, aIStore, aRStore, aPush, aBin, aBinL, aShL, aUn, aIf, aIc, aGet, aPut, aIald, aBald, aAald, aIast, aBast, aAast, aAlen, aCopy, aCallV, aCallC, aCallI, aRet, aCat, aMax, aMin, aDiv, aRem, aI2l, aL2i, aNul, aSwS, aSw, aInc, aDup, aDup2, aPop1, aIret, aAret, aVret, aLen, aFk, aFT, Value.category, m_sh, r_isSheet, hv, re_1]
theorem k_write {s p : Nat} {z : Int32} (hs : s < 4) (hp : p < 24) : aCall aMt (d + 1) 49 [.ref (105 + 2 * s), .int (nI p), .int z] (HH I x y) = some (none, HH (aUpd I (106 + 2 * s) p (sCut (I (105 + 2 * s) 1) z)) x y) := by
  rw [e_49]
  unfold sCut
  by_cases h8 : I (105 + 2 * s) 1 = 8
  · simp [s_49, aILoad, aRLoad, aLLoad, aIStore, aRStore, aPush, aBin, aBinL, aShL, aUn, aIf, aIc, aGet, aPut, aIald, aBald, aAald, aIast, aBast, aAast, aAlen, aCopy, aCallV, aCallC, aCallI, aRet, aCat, aMax, aMin, aDiv, aRem, aI2l, aL2i, aNul, aSwS, aSw, aInc, aDup, aDup2, aPop1, aIret, aAret, aVret, aLen, aFk, aFT, Value.category, sh_sh hs, sh_p hs, h8, toNat_nI (show p < 2 ^ 31 by omega), nI_lt0 (show p < 2 ^ 31 by omega), show ¬ 24 ≤ p by omega]
  · by_cases h16 : I (105 + 2 * s) 1 = 16
    · simp [s_49, aILoad, aRLoad, aLLoad, aIStore, aRStore, aPush, aBin, aBinL, aShL, aUn, aIf, aIc, aGet, aPut, aIald, aBald, aAald, aIast, aBast, aAast, aAlen, aCopy, aCallV, aCallC, aCallI, aRet, aCat, aMax, aMin, aDiv, aRem, aI2l, aL2i, aNul, aSwS, aSw, aInc, aDup, aDup2, aPop1, aIret, aAret, aVret, aLen, aFk, aFT, Value.category, sh_sh hs, sh_p hs, h16, toNat_nI (show p < 2 ^ 31 by omega), nI_lt0 (show p < 2 ^ 31 by omega), show ¬ 24 ≤ p by omega]
    · simp [s_49, aILoad, aRLoad, aLLoad, aIStore, aRStore, aPush, aBin, aBinL, aShL, aUn, aIf, aIc, aGet, aPut, aIald, aBald, aAald, aIast, aBast, aAast, aAlen, aCopy, aCallV, aCallC, aCallI, aRet, aCat, aMax, aMin, aDiv, aRem, aI2l, aL2i, aNul, aSwS, aSw, aInc, aDup, aDup2, aPop1, aIret, aAret, aVret, aLen, aFk, aFT, Value.category, sh_sh hs, sh_p hs, h8, h16, toNat_nI (show p < 2 ^ 31 by omega), nI_lt0 (show p < 2 ^ 31 by omega), show ¬ 24 ≤ p by omega]
theorem pair_put (v i z : Int32) : Pair 95 208 [.int v, .int i, .int z] := by
  intro d I x y h
  have hS := h.2.2.2.2.1
  by_cases hv : 0 ≤ v ∧ v ≤ 3
  · obtain ⟨s, hs3, rfl⟩ := in_0n (n := 3) rfl (by omega) hv
    have hs : s < 4 := by omega
    have sa := k_sheetAt (d := d + 17) (x := x) (y := y) (I := I) hs
    have km := k_missing (d := d + 18) (x := x) (y := y) (I := I) hs
    have ts := toNat_nI (show s < 2 ^ 31 by omega)
    have ns := nI_lt0 (show s < 2 ^ 31 by omega)
    have l4 : ¬ 4 ≤ s := by omega
    obtain ⟨q1, q2, ⟨a, ha, q3, q4⟩, q5⟩ := hS s hs
    by_cases h0 : I 124 s = 0
    · have c0 : I (105 + 2 * s) 1 = 0 := q1.trans h0
      refine Pair.ref 2 (-1000000002) h ?_ (fun I' hI => ?_)
      · rw [e_95]; simp [s_95, aILoad, aRLoad, aLLoad, aIStore, aRStore, aPush, aBin, aBinL, aShL, aUn, aIf, aIc, aGet, aPut, aIald, aBald, aAald, aIast, aBast, aAast, aAlen, aCopy, aCallV, aCallC, aCallI, aRet, aCat, aMax, aMin, aDiv, aRem, aI2l, aL2i, aNul, aSwS, aSw, aInc, aDup, aDup2, aPop1, aIret, aAret, aVret, aLen, aFk, aFT, Value.category, c_sh, sa, sh_sh hs, km, c0, rf_2]
      · have h0' : I' 124 s = 0 := by rw [hI 124 (by decide)]; exact h0
        rw [e_208]; simp [s_208, aILoad, aRLoad, aLLoad, aIStore, aRStore, aPush, aBin, aBinL, aShL, aUn, aIf, aIc, aGet, aPut, aIald, aBald, aAald, aIast, aBast, aAast, aAlen, aCopy, aCallV, aCallC, aCallI, aRet, aCat, aMax, aMin, aDiv, aRem, aI2l, aL2i, aNul, aSwS, aSw, aInc, aDup, aDup2, aPop1, aIret, aAret, aVret, aLen, aFk, aFT, Value.category, m_sh, m_p, r_isSheet, hv, ts, ns, l4, hs, h0', re_2]
    · have c0 : ¬ I (105 + 2 * s) 1 = 0 := fun z => h0 (q1.symm.trans z)
      have kh := k_holds (d := d + 17) (x := x) (y := y) (I := I) (a := i) (n := 1) hs
      rw [q3] at kh
      by_cases hi : 0 ≤ i ∧ i ≤ nI a - 1
      · obtain ⟨p, hp, rfl⟩ := (isIx (by omega)).mp hi
        have a1 : (1 : Int32) ≤ nI a := nI_le (a := 1) (by omega) (by omega)
        rw [if_pos ⟨⟨by decide, a1⟩, hi⟩] at kh
        have kw := k_write (d := d + 18) (x := x) (y := y) (I := I) (z := z) hs (show p < 24 by omega)
        rw [q1] at kw
        have ix : (24 : Int32) * nI s + nI p = nI (24 * s + p) := by rw [show (24 : Int32) = nI 24 from rfl, pk_mul, nI_add]
        have tp := toNat_nI (show 24 * s + p < 2 ^ 31 by omega)
        have np := nI_lt0 (show 24 * s + p < 2 ^ 31 by omega)
        have lp : ¬ 96 ≤ 24 * s + p := by omega
        have e124 : aUpd I (106 + 2 * s) p (sCut (I 124 s) z) 124 = I 124 := aUpd_ne (by omega)
        have e125 : aUpd I (106 + 2 * s) p (sCut (I 124 s) z) 125 = I 125 := aUpd_ne (by omega)
        refine Pair.sh (v := 1) (I1 := aUpd I (106 + 2 * s) p (sCut (I 124 s) z)) (I2 := aUpd (aUpd I (106 + 2 * s) p (sCut (I 124 s) z)) 126 (24 * s + p) (sCut (I 124 s) z)) h ?_ ?_ (fun r hr => by rw [aUpd_ne (by omega), aUpd_ne (by omega)]) (fun r a b c e g => by rw [aUpd_ne (by omega), aUpd_ne (by omega)]) (relS.put hS hs (by omega) rfl rfl)
        · rw [e_95]; simp [s_95, aILoad, aRLoad, aLLoad, aIStore, aRStore, aPush, aBin, aBinL, aShL, aUn, aIf, aIc, aGet, aPut, aIald, aBald, aAald, aIast, aBast, aAast, aAlen, aCopy, aCallV, aCallC, aCallI, aRet, aCat, aMax, aMin, aDiv, aRem, aI2l, aL2i, aNul, aSwS, aSw, aInc, aDup, aDup2, aPop1, aIret, aAret, aVret, aLen, aFk, aFT, Value.category, c_sh, sa, sh_sh hs, km, c0, kh, kw]
        · generalize aUpd I (106 + 2 * s) p (sCut (I 124 s) z) = J at *
          rw [e_208]
          rcases q2.resolve_left h0 with hb | hb | hb
          · simp [s_208, aILoad, aRLoad, aLLoad, aIStore, aRStore, aPush, aBin, aBinL, aShL, aUn, aIf, aIc, aGet, aPut, aIald, aBald, aAald, aIast, aBast, aAast, aAlen, aCopy, aCallV, aCallC, aCallI, aRet, aCat, aMax, aMin, aDiv, aRem, aI2l, aL2i, aNul, aSwS, aSw, aInc, aDup, aDup2, aPop1, aIret, aAret, aVret, aLen, aFk, aFT, Value.category, m_sh, m_p, r_isSheet, hv, ts, ns, l4, hs, e124, e125, hb, q4, r_in, hi, ix, tp, np, lp, sCut, show (24 : Int32) &&& 31 = 24 by decide, cut_8]
          · simp [s_208, aILoad, aRLoad, aLLoad, aIStore, aRStore, aPush, aBin, aBinL, aShL, aUn, aIf, aIc, aGet, aPut, aIald, aBald, aAald, aIast, aBast, aAast, aAlen, aCopy, aCallV, aCallC, aCallI, aRet, aCat, aMax, aMin, aDiv, aRem, aI2l, aL2i, aNul, aSwS, aSw, aInc, aDup, aDup2, aPop1, aIret, aAret, aVret, aLen, aFk, aFT, Value.category, m_sh, m_p, r_isSheet, hv, ts, ns, l4, hs, e124, e125, hb, q4, r_in, hi, ix, tp, np, lp, sCut, show (16 : Int32) &&& 31 = 16 by decide, cut_16]
          · simp [s_208, aILoad, aRLoad, aLLoad, aIStore, aRStore, aPush, aBin, aBinL, aShL, aUn, aIf, aIc, aGet, aPut, aIald, aBald, aAald, aIast, aBast, aAast, aAlen, aCopy, aCallV, aCallC, aCallI, aRet, aCat, aMax, aMin, aDiv, aRem, aI2l, aL2i, aNul, aSwS, aSw, aInc, aDup, aDup2, aPop1, aIret, aAret, aVret, aLen, aFk, aFT, Value.category, m_sh, m_p, r_isSheet, hv, ts, ns, l4, hs, e124, e125, hb, q4, r_in, hi, ix, tp, np, lp, sCut, cut_32]
      · rw [if_neg (fun z => hi z.2)] at kh
        refine Pair.ref 1 (-1000000001) h ?_ (fun I' hI => ?_)
        · rw [e_95]; simp [s_95, aILoad, aRLoad, aLLoad, aIStore, aRStore, aPush, aBin, aBinL, aShL, aUn, aIf, aIc, aGet, aPut, aIald, aBald, aAald, aIast, aBast, aAast, aAlen, aCopy, aCallV, aCallC, aCallI, aRet, aCat, aMax, aMin, aDiv, aRem, aI2l, aL2i, aNul, aSwS, aSw, aInc, aDup, aDup2, aPop1, aIret, aAret, aVret, aLen, aFk, aFT, Value.category, c_sh, sa, sh_sh hs, km, c0, kh, rf_1]
        · have h0' : ¬ I' 124 s = 0 := by rw [hI 124 (by decide)]; exact h0
          have q4' : I' 125 s = nI a := by rw [hI 125 (by decide)]; exact q4
          rw [e_208]; simp [s_208, aILoad, aRLoad, aLLoad, aIStore, aRStore, aPush, aBin, aBinL, aShL, aUn, aIf, aIc, aGet, aPut, aIald, aBald, aAald, aIast, aBast, aAast, aAlen, aCopy, aCallV, aCallC, aCallI, aRet, aCat, aMax, aMin, aDiv, aRem, aI2l, aL2i, aNul, aSwS, aSw, aInc, aDup, aDup2, aPop1, aIret, aAret, aVret, aLen, aFk, aFT, Value.category, m_sh, m_p, r_isSheet, hv, ts, ns, l4, hs, h0', q4', r_in, hi, re_1]
  · have sa := k_sheetNo (d := d + 17) (x := x) (y := y) (I := I) hv
    refine Pair.ref 1 (-1000000001) h ?_ (fun I' hI => ?_)
    · rw [e_95]; simp [s_95, aILoad, aRLoad, aLLoad, aIStore, aRStore, aPush, aBin, aBinL, aShL, aUn, aIf, aIc, aGet, aPut, aIald, aBald, aAald, aIast, aBast, aAast, aAlen, aCopy, aCallV, aCallC, aCallI, aRet, aCat, aMax, aMin, aDiv, aRem, aI2l, aL2i, aNul, aSwS, aSw, aInc, aDup, aDup2, aPop1, aIret, aAret, aVret, aLen, aFk, aFT, Value.category, c_sh, sa, rf_1]
    · rw [e_208]; simp [s_208, aILoad, aRLoad, aLLoad, aIStore, aRStore, aPush, aBin, aBinL, aShL, aUn, aIf, aIc, aGet, aPut, aIald, aBald, aAald, aIast, aBast, aAast, aAlen, aCopy, aCallV, aCallC, aCallI, aRet, aCat, aMax, aMin, aDiv, aRem, aI2l, aL2i, aNul, aSwS, aSw, aInc, aDup, aDup2, aPop1, aIret, aAret, aVret, aLen, aFk, aFT, Value.category, m_sh, r_isSheet, hv, re_1]
end SHEET2
