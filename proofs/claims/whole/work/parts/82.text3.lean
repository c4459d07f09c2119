/-! TEXTS: an operand -/
def rM (l : Nat) : Nat := if l = 0 then 135 else if l = 1 then 136 else if l = 2 then 137 else if l = 3 then 138 else if l = 4 then 139 else 141
/-- what a call of a reader comes to, in the class and in the reference -/
def PR (f L u nm : Nat) (X Y : Nat → Nat → Int32) (cm : Nat) (ca : List Value) (rm cd rd o a : Nat) : Prop := ∃ (b : Bool) (a' : Nat) (s : List (Int32 × Int32)), a ≤ a' ∧ a' ≤ L ∧ (b = true → a < a' ∧ s.length ≤ a' - a ∧ ∀ D, okL u D s (D + 1)) ∧
  (∀ (dd : Nat) (st : List (Int32 × Int32)) (I : Nat → Nat → Int32), cd ≤ dd → st.length ≤ a → CS u L X a st I → ∃ I1, aCall aMt dd cm (.ref 94 :: ca) (HH I (some (f + 11)) (some nm)) = some (some (.int (if b then 1 else 0)), HH I1 (some (f + 11)) (some nm)) ∧ (if b = true then CS u L X a' (st ++ s) I1 else CF L X a' I1)) ∧
  (∀ (dd : Nat) (st : List (Int32 × Int32)) (J : Nat → Nat → Int32) (x y : Option Nat), rd ≤ dd → st.length ≤ a → RS u Y a o st J → ∃ J1, aCall aMt dd rm [.ref 113] (HH J x y) = some (some (.int (if b then 1 else 0)), HH J1 x y) ∧ (if b = true then RS u Y a' o (st ++ s) J1 else RFl Y a' J1))
def PO (f L u nm : Nat) (X Y : Nat → Nat → Int32) (o a : Nat) : Prop := PR f L u nm X Y 40 [.int (nI o)] 141 ((5 - o) * 8 + 8) ((5 - o) * 6 + 6) o a
def PC (f L u nm : Nat) (X Y : Nat → Nat → Int32) (l o a : Nat) : Prop := PR f L u nm X Y 39 [.int (nI l), .int (nI o)] (rM l) ((5 - o) * 8 + 8 + (6 - l)) ((5 - o) * 6 + 6 + (5 - l)) o a
theorem RS.opn {u a o q b : Nat} {Y J : Nat → Nat → Int32} {st : List (Int32 × Int32)} (h : RS u Y a o st J) : RS u Y b q st (aUpd (aUpd J 113 6 (nI q)) 113 5 (nI b)) := h.op.at
section TEXT3
variable {f L u nm : Nat} {X Y : Nat → Nat → Int32} {rb : Nat → Int32}
/-- neither reader goes on here -/
theorem PO_no {o a : Nat} (hf : isF f) (hX : pX f L X rb) (hY : pY L Y rb) (hu : u = 0 ∧ nm = 2001 ∨ u = 1 ∧ nm = 2002) (ho : o ≤ 5) (ha : a ≤ L) (hd : ¬ (48 ≤ lk rb L a ∧ lk rb L a ≤ 57)) (hn : ¬ isNm u (lk rb L a)) (hs : o = 5 ∨ (¬ lk rb L a = 33 ∧ ¬ lk rb L a = 40)) : PO f L u nm X Y o a := by
  have hff : f ≤ 63 := by rcases hf with rfl | rfl | rfl <;> omega
  have hL := hX.1
  refine ⟨false, a, [], Nat.le_refl a, ha, (fun z => by cases z), fun dd st I hdd hst hI => ⟨I, ?_, hI.f⟩, ?_⟩
  · obtain ⟨d, rfl⟩ : ∃ d, dd = d + 8 := ⟨dd - 8, by omega⟩
    rw [e_40]
    by_cases c : a < L
    · have g2 : ¬ nI L ≤ nI a := nI_ge c (by omega)
      have hb := hX.2 a c
      have elk : lk rb L a = rb a := if_pos c
      rw [elk] at hd hn hs
      have hi11 : I (f + 11) a = X (f + 11) a := by rw [hI.2.2.2.2 (f + 11) (by omega) (by omega) (by omega) (by omega)]
      have ta := toNat_nI (show a < 2 ^ 31 by omega)
      have na := nI_lt0 (show a < 2 ^ 31 by omega)
      have la : ¬ 60 ≤ a := by omega
      have go : o = 5 ∨ ¬ (5 : Int32) ≤ nI o := by
        by_cases h5 : o = 5
        · exact Or.inl h5
        · exact Or.inr (nI_ge (b := 5) (by omega) (by omega))
      rcases bRel_c hb with ⟨e, n, hn128, hr⟩ | ⟨⟨hc, hk⟩, _⟩
      · rw [hr] at e hd hn hs
        have ix := k_indexOf (d := d + 2) (I := I) (x := some (f + 11)) (y := some nm) hn128 hu
        rw [nix_no hn] at ix
        have ib := (nI_byte hn128).2
        by_cases n0 : n = 0
        · subst n0
          rcases go with h5 | h5
          · subst h5
            have h5 : (5 : Int32) ≤ nI 5 := by decide
            simp [s_40, aILoad, aRLoad, aLLoad, aIStore, aRStore, aPush, aBin, aBinL, aShL, aUn, aIf, aIc, aGet, aPut, aIald, aBald, aAald, aIast, aBast, aAast, aAlen, aCopy, aCallV, aCallC, aCallI, aRet, aCat, aMax, aMin, aDiv, aRem, aI2l, aL2i, aNul, aSwS, aSw, aInc, aDup, aDup2, aPop1, aIret, aAret, aVret, aLen, aFk, aFT, Value.category, c_sh, c_q, f_sh hf, hI.1, hI.2.1, g2, hi11, e, k_isIn, ta, na, la, nI_lit0, h5]
          · have hs' := hs.resolve_left (fun z => h5 (by subst z; decide))
            simp [s_40, aILoad, aRLoad, aLLoad, aIStore, aRStore, aPush, aBin, aBinL, aShL, aUn, aIf, aIc, aGet, aPut, aIald, aBald, aAald, aIast, aBast, aAast, aAlen, aCopy, aCallV, aCallC, aCallI, aRet, aCat, aMax, aMin, aDiv, aRem, aI2l, aL2i, aNul, aSwS, aSw, aInc, aDup, aDup2, aPop1, aIret, aAret, aVret, aLen, aFk, aFT, Value.category, c_sh, c_q, f_sh hf, hI.1, hI.2.1, g2, hi11, e, k_isIn, ta, na, la, nI_lit0, h5]
        · have p0 : ¬ nI n ≤ 0 := nI_nle (by omega) (by omega)
          rcases go with h5 | h5
          · subst h5
            have h5 : (5 : Int32) ≤ nI 5 := by decide
            rcases hu with ⟨rfl, rfl⟩ | ⟨rfl, rfl⟩ <;> simp [s_40, aILoad, aRLoad, aLLoad, aIStore, aRStore, aPush, aBin, aBinL, aShL, aUn, aIf, aIc, aGet, aPut, aIald, aBald, aAald, aIast, aBast, aAast, aAlen, aCopy, aCallV, aCallC, aCallI, aRet, aCat, aMax, aMin, aDiv, aRem, aI2l, aL2i, aNul, aSwS, aSw, aInc, aDup, aDup2, aPop1, aIret, aAret, aVret, aLen, aFk, aFT, Value.category, c_sh, c_q, f_sh hf, hI.1, hI.2.1, g2, hi11, e, k_isIn, hd, ta, na, la, p0, ib, ix, h5]
          · have hs' := hs.resolve_left (fun z => h5 (by subst z; decide))
            rcases hu with ⟨rfl, rfl⟩ | ⟨rfl, rfl⟩ <;> simp [s_40, aILoad, aRLoad, aLLoad, aIStore, aRStore, aPush, aBin, aBinL, aShL, aUn, aIf, aIc, aGet, aPut, aIald, aBald, aAald, aIast, aBast, aAast, aAlen, aCopy, aCallV, aCallC, aCallI, aRet, aCat, aMax, aMin, aDiv, aRem, aI2l, aL2i, aNul, aSwS, aSw, aInc, aDup, aDup2, aPop1, aIret, aAret, aVret, aLen, aFk, aFT, Value.category, c_sh, c_q, f_sh hf, hI.1, hI.2.1, g2, hi11, e, k_isIn, hd, ta, na, la, p0, ib, ix, h5, hs']
      · have d1 : ¬ (48 : Int32) ≤ X (f + 11) a := fun z => absurd (Int32.lt_of_le_of_lt z hc) (by decide)
        have p0 : X (f + 11) a ≤ 0 := Int32.le_of_lt hc
        have k1 : ¬ X (f + 11) a = 33 := (hk 33 (by decide)).1
        have k2 : ¬ X (f + 11) a = 40 := (hk 40 (by decide)).1
        rcases go with h5 | h5
        · subst h5
          have h5 : (5 : Int32) ≤ nI 5 := by decide
          simp [s_40, aILoad, aRLoad, aLLoad, aIStore, aRStore, aPush, aBin, aBinL, aShL, aUn, aIf, aIc, aGet, aPut, aIald, aBald, aAald, aIast, aBast, aAast, aAlen, aCopy, aCallV, aCallC, aCallI, aRet, aCat, aMax, aMin, aDiv, aRem, aI2l, aL2i, aNul, aSwS, aSw, aInc, aDup, aDup2, aPop1, aIret, aAret, aVret, aLen, aFk, aFT, Value.category, c_sh, c_q, f_sh hf, hI.1, hI.2.1, g2, hi11, k_isIn, d1, ta, na, la, p0, h5]
        · simp [s_40, aILoad, aRLoad, aLLoad, aIStore, aRStore, aPush, aBin, aBinL, aShL, aUn, aIf, aIc, aGet, aPut, aIald, aBald, aAald, aIast, aBast, aAast, aAlen, aCopy, aCallV, aCallC, aCallI, aRet, aCat, aMax, aMin, aDiv, aRem, aI2l, aL2i, aNul, aSwS, aSw, aInc, aDup, aDup2, aPop1, aIret, aAret, aVret, aLen, aFk, aFT, Value.category, c_sh, c_q, f_sh hf, hI.1, hI.2.1, g2, hi11, k_isIn, d1, ta, na, la, p0, h5, k1, k2]
    · have g2 : nI L ≤ nI a := nI_le (by omega) (by omega)
      have g3 : ¬ nI a < nI L := Int32.not_lt.mpr g2
      simp [s_40, aILoad, aRLoad, aLLoad, aIStore, aRStore, aPush, aBin, aBinL, aShL, aUn, aIf, aIc, aGet, aPut, aIald, aBald, aAald, aIast, aBast, aAast, aAlen, aCopy, aCallV, aCallC, aCallI, aRet, aCat, aMax, aMin, aDiv, aRem, aI2l, aL2i, aNul, aSwS, aSw, aInc, aDup, aDup2, aPop1, aIret, aAret, aVret, aLen, aFk, aFT, Value.category, c_sh, c_q, hI.1, hI.2.1, g2, g3]
  · intro dd st J x y hdd hst hJ
    obtain ⟨d, rfl⟩ : ∃ d, dd = d + 6 := ⟨dd - 6, by omega⟩
    have rl := r_look (d := d + 4) (x := x) (y := y) hY ha hJ.f
    have rn := (r_isName (d := d + 4) (I := J) (x := x) (y := y) (c := lk rb L a) (by omega) hJ.2.2.2.1).2 hn
    have ro := r_opens (d := d + 4) (x := x) (y := y) hJ ho
    refine ⟨J, ?_, hJ.f⟩
    rw [e_141]
    by_cases h5 : o = 5
    · rw [if_pos h5] at ro
      by_cases k1 : lk rb L a = 33
      · rw [k1] at rl rn
        simp [s_141, aILoad, aRLoad, aLLoad, aIStore, aRStore, aPush, aBin, aBinL, aShL, aUn, aIf, aIc, aGet, aPut, aIald, aBald, aAald, aIast, aBast, aAast, aAlen, aCopy, aCallV, aCallC, aCallI, aRet, aCat, aMax, aMin, aDiv, aRem, aI2l, aL2i, aNul, aSwS, aSw, aInc, aDup, aDup2, aPop1, aIret, aAret, aVret, aLen, aFk, aFT, Value.category, m_sh, m_p, rl, rn, r_in, ro]
      · by_cases k2 : lk rb L a = 40
        · rw [k2] at rl rn
          simp [s_141, aILoad, aRLoad, aLLoad, aIStore, aRStore, aPush, aBin, aBinL, aShL, aUn, aIf, aIc, aGet, aPut, aIald, aBald, aAald, aIast, aBast, aAast, aAlen, aCopy, aCallV, aCallC, aCallI, aRet, aCat, aMax, aMin, aDiv, aRem, aI2l, aL2i, aNul, aSwS, aSw, aInc, aDup, aDup2, aPop1, aIret, aAret, aVret, aLen, aFk, aFT, Value.category, m_sh, m_p, rl, rn, r_in, ro]
        · simp [s_141, aILoad, aRLoad, aLLoad, aIStore, aRStore, aPush, aBin, aBinL, aShL, aUn, aIf, aIc, aGet, aPut, aIald, aBald, aAald, aIast, aBast, aAast, aAlen, aCopy, aCallV, aCallC, aCallI, aRet, aCat, aMax, aMin, aDiv, aRem, aI2l, aL2i, aNul, aSwS, aSw, aInc, aDup, aDup2, aPop1, aIret, aAret, aVret, aLen, aFk, aFT, Value.category, m_sh, m_p, rl, rn, r_in, hd, k1, k2]
    · obtain ⟨k1, k2⟩ := hs.resolve_left h5
      simp [s_141, aILoad, aRLoad, aLLoad, aIStore, aRStore, aPush, aBin, aBinL, aShL, aUn, aIf, aIc, aGet, aPut, aIald, aBald, aAald, aIast, aBast, aAast, aAlen, aCopy, aCallV, aCallC, aCallI, aRet, aCat, aMax, aMin, aDiv, aRem, aI2l, aL2i, aNul, aSwS, aSw, aInc, aDup, aDup2, aPop1, aIret, aAret, aVret, aLen, aFk, aFT, Value.category, m_sh, m_p, rl, rn, r_in, hd, k1, k2]
theorem digit_nm {n : Nat} (h1 : 48 ≤ n) (h2 : n ≤ 57) : ¬ isNm u (nI n) := fun z => by
  have := isNm_ix z (by omega); omega
theorem PO_num {o a : Nat} (hf : isF f) (hX : pX f L X rb) (hY : pY L Y rb) (hu : u < 2) (ha : a < L) (hd : 48 ≤ rb a ∧ rb a ≤ 57) : PO f L u nm X Y o a := by
  have hff : f ≤ 63 := by rcases hf with rfl | rfl | rfl <;> omega
  have hL := hX.1
  have hlt : a < (rdN rb L 4 a 0).1 := rdN_lt (rb := rb) (L := L) (j := 3) (a := a) (v := 0) ⟨ha, hd⟩
  have hle := rdN_le (rb := rb) (L := L) 4 a 0 (by omega)
  obtain ⟨n, n1, n2, hr⟩ := (isIn' (v := rb a) (a := 48) (b := 57) (by omega) (by omega)).mp hd
  refine ⟨true, (rdN rb L 4 a 0).1, [(0, nI (rdN rb L 4 a 0).2)], hle.1, hle.2, fun _ => ⟨hlt, by simp; omega, fun D => Or.inl ⟨rfl, rfl⟩⟩, fun dd st I hdd hst hI => ?_, fun dd st J x y hdd hst hJ => ?_⟩
  · obtain ⟨d, rfl⟩ : ∃ d, dd = d + 8 := ⟨dd - 8, by omega⟩
    obtain ⟨I1, r1, r2⟩ := k_number (d := d + 5) (nm := some nm) hf hX (show st.length < 60 by omega) (show a ≤ L by omega) hI
    refine ⟨I1, ?_, r2⟩
    have g2 : ¬ nI L ≤ nI a := nI_ge ha (by omega)
    have hb := hX.2 a ha
    have hc : X (f + 11) a = nI n := by
      rcases bRel_c hb with ⟨e, _⟩ | ⟨⟨_, hk⟩, _⟩
      · rw [e, hr]
      · exact absurd hr (hk n (by omega)).2
    have hi11 : I (f + 11) a = nI n := by rw [hI.2.2.2.2 (f + 11) (by omega) (by omega) (by omega) (by omega), hc]
    have g3 : (48 : Int32) ≤ nI n ∧ nI n ≤ 57 := by rw [← hr]; exact hd
    rw [e_40]
    simp [s_40, aILoad, aRLoad, aLLoad, aIStore, aRStore, aPush, aBin, aBinL, aShL, aUn, aIf, aIc, aGet, aPut, aIald, aBald, aAald, aIast, aBast, aAast, aAlen, aCopy, aCallV, aCallC, aCallI, aRet, aCat, aMax, aMin, aDiv, aRem, aI2l, aL2i, aNul, aSwS, aSw, aInc, aDup, aDup2, aPop1, aIret, aAret, aVret, aLen, aFk, aFT, Value.category, c_sh, c_q, f_sh hf, hI.1, hI.2.1, g2, hi11, k_isIn, g3, r1, toNat_nI (show a < 2 ^ 31 by omega), nI_lt0 (show a < 2 ^ 31 by omega), show ¬ 60 ≤ a by omega]
  · obtain ⟨d, rfl⟩ : ∃ d, dd = d + 6 := ⟨dd - 6, by omega⟩
    have rl := r_look (d := d + 4) (x := x) (y := y) hY (show a ≤ L by omega) hJ.f
    rw [show lk rb L a = nI n by unfold lk; rw [if_pos ha, hr]] at rl
    have rn := (r_isName (d := d + 4) (I := J) (x := x) (y := y) (c := nI n) hu hJ.2.2.2.1).2 (digit_nm n1 n2)
    obtain ⟨J1, r1, r2⟩ := r_num_loop (d := d + 4) (x := x) (y := y) (c := nI n) (o := o) hY (show st.length < 60 by omega) 4 a 0 0 J (by omega) (by omega) hJ
    refine ⟨J1, ?_, r2⟩
    have g3 : (48 : Int32) ≤ nI n ∧ nI n ≤ 57 := by rw [← hr]; exact hd
    rw [nI_lit0] at r1
    rw [e_141, if_pos rfl, ← r1]
    simp [s_141, aILoad, aRLoad, aLLoad, aIStore, aRStore, aPush, aBin, aBinL, aShL, aUn, aIf, aIc, aGet, aPut, aIald, aBald, aAald, aIast, aBast, aAast, aAlen, aCopy, aCallV, aCallC, aCallI, aRet, aCat, aMax, aMin, aDiv, aRem, aI2l, aL2i, aNul, aSwS, aSw, aInc, aDup, aDup2, aPop1, aIret, aAret, aVret, aLen, aFk, aFT, Value.category, m_sh, m_p, rl, rn, r_in, g3]
theorem PO_name {o a : Nat} (hf : isF f) (hX : pX f L X rb) (hY : pY L Y rb) (hu : u = 0 ∧ nm = 2001 ∨ u = 1 ∧ nm = 2002) (ha : a < L) (hn : isNm u (rb a)) : PO f L u nm X Y o a := by
  have hff : f ≤ 63 := by rcases hf with rfl | rfl | rfl <;> omega
  have hL := hX.1
  have hb := hX.2 a ha
  obtain ⟨n, hn128, hr, hc⟩ : ∃ n, n < 128 ∧ rb a = nI n ∧ X (f + 11) a = nI n := by
    rcases bRel_c hb with ⟨e, n, h1, h2⟩ | ⟨⟨_, hk⟩, n, h1, h2, h3⟩
    · exact ⟨n, h1, h2, e.trans h2⟩
    · exfalso
      rcases hn with z | z | ⟨_, z⟩ | ⟨_, z⟩
      · exact (hk 108 (by decide)).2 z
      · exact (hk 111 (by decide)).2 z
      · exact (hk 97 (by decide)).2 z
      · exact (hk 115 (by decide)).2 z
  have hix := isNm_ix (by rw [← hr]; exact hn) hn128
  have hnm : isNm u (nI n) := by rw [← hr]; exact hn
  refine ⟨true, a + 1, [(1, rb a)], by omega, by omega, fun _ => ⟨by omega, by simp, fun D => Or.inr (Or.inl ⟨rfl, hn, rfl⟩)⟩, fun dd st I hdd hst hI => ?_, fun dd st J x y hdd hst hJ => ?_⟩
  · obtain ⟨d, rfl⟩ : ∃ d, dd = d + 8 := ⟨dd - 8, by omega⟩
    have h2 := hI.at (b := a + 1)
    have ka := k_app (d := d + 6) (x := some (f + 11)) (y := some nm) (s := (1, rb a)) h2 (by omega)
    rw [show (cS u (1, rb a)).1 = 118 from rfl, show (cS u (1, rb a)).2 = idx u (rb a) from rfl, hr] at ka
    have h3 := h2.app (s := (1, rb a))
    rw [show (cS u (1, rb a)).1 = 118 from rfl, show (cS u (1, rb a)).2 = idx u (rb a) from rfl, hr] at h3
    have ix := k_indexOf (d := d + 2) (I := I) (x := some (f + 11)) (y := some nm) hn128 hu
    obtain ⟨x1, x2⟩ := nix_nm hnm
    rw [x1] at ix x2
    refine ⟨_, ?_, by rw [hr]; exact h3⟩
    have g2 : ¬ nI L ≤ nI a := nI_ge ha (by omega)
    have hi11 : I (f + 11) a = nI n := by rw [hI.2.2.2.2 (f + 11) (by omega) (by omega) (by omega) (by omega), hc]
    have g3 : ¬ ((48 : Int32) ≤ nI n ∧ nI n ≤ 57) := fun z => by
      have := (nI_leI (a := n) (b := 57) (by omega) (by omega)).mp z.2; omega
    have p0 : ¬ nI n ≤ 0 := nI_nle (by omega) (by omega)
    have ib := (nI_byte hn128).2
    have x3 : ¬ idx u (nI n) < 0 := Int32.not_lt.mpr x2
    rw [e_40]
    rcases hu with ⟨rfl, rfl⟩ | ⟨rfl, rfl⟩ <;> simp [s_40, aILoad, aRLoad, aLLoad, aIStore, aRStore, aPush, aBin, aBinL, aShL, aUn, aIf, aIc, aGet, aPut, aIald, aBald, aAald, aIast, aBast, aAast, aAlen, aCopy, aCallV, aCallC, aCallI, aRet, aCat, aMax, aMin, aDiv, aRem, aI2l, aL2i, aNul, aSwS, aSw, aInc, aDup, aDup2, aPop1, aIret, aAret, aVret, aLen, aFk, aFT, Value.category, c_sh, c_q, f_sh hf, hI.1, hI.2.1, g2, hi11, k_isIn, g3, p0, ib, ix, x2, x3, ka, toNat_nI (show a < 2 ^ 31 by omega), nI_lt0 (show a < 2 ^ 31 by omega), show ¬ 60 ≤ a by omega, nI_1]
  · obtain ⟨d, rfl⟩ : ∃ d, dd = d + 6 := ⟨dd - 6, by omega⟩
    have rl := r_look (d := d + 4) (x := x) (y := y) hY (show a ≤ L by omega) hJ.f
    rw [show lk rb L a = rb a by unfold lk; rw [if_pos ha]] at rl
    have rn := (r_isName (d := d + 4) (I := J) (x := x) (y := y) (c := rb a) (by omega) hJ.2.2.2.1).1 hn
    have h2 := hJ.at (b := a + 1)
    have rs := r_step1 (d := d + 4) (x := x) (y := y) (w := 1) (v := rb a) h2 (by omega)
    refine ⟨_, ?_, h2.app (w := 1) (v := rb a)⟩
    rw [e_141]
    simp [s_141, aILoad, aRLoad, aLLoad, aIStore, aRStore, aPush, aBin, aBinL, aShL, aUn, aIf, aIc, aGet, aPut, aIald, aBald, aAald, aIast, aBast, aAast, aAlen, aCopy, aCallV, aCallC, aCallI, aRet, aCat, aMax, aMin, aDiv, aRem, aI2l, aL2i, aNul, aSwS, aSw, aInc, aDup, aDup2, aPop1, aIret, aAret, aVret, aLen, aFk, aFT, Value.category, m_sh, m_p, rl, rn, hJ.1, rs, nI_1]
end TEXT3
