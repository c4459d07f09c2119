/-! TEXTS: what is denied, what is closed; every operand -/
section TEXT4
variable {f L u nm : Nat} {X Y : Nat → Nat → Int32} {rb : Nat → Int32}
theorem bRel_k {c r : Int32} {k : Nat} (h : bRel c r) (hk : k < 128) : c = nI k ↔ r = nI k := by
  rcases bRel_c h with ⟨rfl, _⟩ | ⟨⟨_, hh⟩, _⟩
  · exact Iff.rfl
  · exact ⟨fun z => absurd z (hh k hk).1, fun z => absurd z (hh k hk).2⟩
theorem PO_not {o a : Nat} (hf : isF f) (hX : pX f L X rb) (hY : pY L Y rb) (hu : u = 0 ∧ nm = 2001 ∨ u = 1 ∧ nm = 2002) (ho : o < 5) (ha : a < L) (hc : rb a = 33) (hP : PO f L u nm X Y (o + 1) (a + 1)) : PO f L u nm X Y o a := by
  have hff : f ≤ 63 := by rcases hf with rfl | rfl | rfl <;> omega
  have hL := hX.1
  have hcb : X (f + 11) a = 33 := (bRel_k (k := 33) (hX.2 a ha) (by decide)).mpr hc
  obtain ⟨b, a', s, h1, h2, h3, kc, kr⟩ := hP
  have g2 : ¬ nI L ≤ nI a := nI_ge ha (by omega)
  have go : ¬ (5 : Int32) ≤ nI o := nI_ge (b := 5) ho (by omega)
  have ne5 : ¬ o = 5 := by omega
  have ib := (nI_byte (n := 33) (by decide)).2
  rw [show nI 33 = (33 : Int32) from rfl] at ib
  refine ⟨b, a', s ++ [(2, 0)], by omega, h2, fun hb => ⟨by have := h3 hb; omega, by have := h3 hb; rw [List.length_append, List.length_singleton]; omega, fun D => okL_app ((h3 hb).2.2 D) (Or.inr (Or.inr (Or.inl ⟨rfl, by omega, rfl⟩)))⟩, fun dd st I hdd hst hI => ?_, fun dd st J x y hdd hst hJ => ?_⟩
  · obtain ⟨d, rfl⟩ : ∃ d, dd = d + 8 := ⟨dd - 8, by omega⟩
    have ix := k_indexOf (d := d + 2) (I := I) (x := some (f + 11)) (y := some nm) (n := 33) (by decide) hu
    rw [nix_no (fun z => by have := isNm_ix z (by decide); omega), show nI 33 = (33 : Int32) from rfl] at ix
    have hi11 : I (f + 11) a = 33 := by rw [hI.2.2.2.2 (f + 11) (by omega) (by omega) (by omega) (by omega), hcb]
    obtain ⟨I1, q1, q2⟩ := kc (d + 6) st (aUpd I 94 3 (nI (a + 1))) (by omega) (by omega) hI.at
    have h41 : ∃ I2, aCall aMt (d + 7) 41 [.ref 94, .int (nI (o + 1))] (HH (aUpd I 94 3 (nI (a + 1))) (some (f + 11)) (some nm)) = some (some (.int (if b then 1 else 0)), HH I2 (some (f + 11)) (some nm)) ∧ (if b = true then CS u L X a' (st ++ (s ++ [(2, 0)])) I2 else CF L X a' I2) := by
      rw [e_41]
      cases b with
      | false =>
        simp only [Bool.false_eq_true, if_false] at q1 q2 ⊢
        refine ⟨I1, ?_, q2⟩
        simp [s_41, aILoad, aRLoad, aLLoad, aIStore, aRStore, aPush, aBin, aBinL, aShL, aUn, aIf, aIc, aGet, aPut, aIald, aBald, aAald, aIast, aBast, aAast, aAlen, aCopy, aCallV, aCallC, aCallI, aRet, aCat, aMax, aMin, aDiv, aRem, aI2l, aL2i, aNul, aSwS, aSw, aInc, aDup, aDup2, aPop1, aIret, aAret, aVret, aLen, aFk, aFT, Value.category, c_sh, q1]
      | true =>
        simp only [if_true] at q1 q2 ⊢
        have hs := h3 rfl
        have ka := k_app (d := d + 5) (x := some (f + 11)) (y := some nm) (s := (2, 0)) q2 (by rw [List.length_append]; omega)
        have h5 := q2.app (s := (2, 0))
        rw [show (cS u (2, 0)).1 = 33 from rfl, show (cS u (2, 0)).2 = 0 from rfl] at ka h5
        refine ⟨_, ?_, by rw [← List.append_assoc]; exact h5⟩
        simp [s_41, aILoad, aRLoad, aLLoad, aIStore, aRStore, aPush, aBin, aBinL, aShL, aUn, aIf, aIc, aGet, aPut, aIald, aBald, aAald, aIast, aBast, aAast, aAlen, aCopy, aCallV, aCallC, aCallI, aRet, aCat, aMax, aMin, aDiv, aRem, aI2l, aL2i, aNul, aSwS, aSw, aInc, aDup, aDup2, aPop1, aIret, aAret, aVret, aLen, aFk, aFT, Value.category, c_sh, c_q, q1, ka]
    obtain ⟨I2, r1, r2⟩ := h41
    refine ⟨I2, ?_, r2⟩
    rw [e_40, ← r1]
    rcases hu with ⟨rfl, rfl⟩ | ⟨rfl, rfl⟩ <;> simp [s_40, aILoad, aRLoad, aLLoad, aIStore, aRStore, aPush, aBin, aBinL, aShL, aUn, aIf, aIc, aGet, aPut, aIald, aBald, aAald, aIast, aBast, aAast, aAlen, aCopy, aCallV, aCallC, aCallI, aRet, aCat, aMax, aMin, aDiv, aRem, aI2l, aL2i, aNul, aSwS, aSw, aInc, aDup, aDup2, aPop1, aIret, aAret, aVret, aLen, aFk, aFT, Value.category, c_sh, c_q, f_sh hf, hI.1, hI.2.1, g2, hi11, k_isIn, ib, ix, go, toNat_nI (show a < 2 ^ 31 by omega), nI_lt0 (show a < 2 ^ 31 by omega), show ¬ 60 ≤ a by omega, nI_1, r1]
  · obtain ⟨d, rfl⟩ : ∃ d, dd = d + 6 := ⟨dd - 6, by omega⟩
    have rl := r_look (d := d + 4) (x := x) (y := y) hY (show a ≤ L by omega) hJ.f
    rw [show lk rb L a = 33 by unfold lk; rw [if_pos ha, hc]] at rl
    have rn := (r_isName (d := d + 4) (I := J) (x := x) (y := y) (c := 33) (by omega) hJ.2.2.2.1).2 (fun z => by
      have z' : isNm u (nI 33) := z
      have := isNm_ix z' (by decide); omega)
    have ro := r_opens (d := d + 4) (x := x) (y := y) hJ (by omega)
    rw [if_neg ne5] at ro
    obtain ⟨J1, q1, q2⟩ := kr (d + 5) st _ x y (by omega) (by omega) (hJ.opn (q := o + 1) (b := a + 1))
    rw [e_141]
    cases b with
    | false =>
      simp only [Bool.false_eq_true, if_false] at q1 q2 ⊢
      refine ⟨J1, ?_, q2⟩
      simp [s_141, aILoad, aRLoad, aLLoad, aIStore, aRStore, aPush, aBin, aBinL, aShL, aUn, aIf, aIc, aGet, aPut, aIald, aBald, aAald, aIast, aBast, aAast, aAlen, aCopy, aCallV, aCallC, aCallI, aRet, aCat, aMax, aMin, aDiv, aRem, aI2l, aL2i, aNul, aSwS, aSw, aInc, aDup, aDup2, aPop1, aIret, aAret, aVret, aLen, aFk, aFT, Value.category, m_sh, m_p, rl, rn, r_in, ro, q1]
    | true =>
      simp only [if_true] at q1 q2 ⊢
      have hs := h3 rfl
      have q3 := q2.op (q := o)
      have rs := r_step1 (d := d + 4) (x := x) (y := y) (w := 2) (v := 0) q3 (by rw [List.length_append]; omega)
      refine ⟨_, ?_, by rw [← List.append_assoc]; exact q3.app (w := 2) (v := 0)⟩
      have e6 : J1 113 6 = nI (o + 1) := q2.2.1
      simp [s_141, aILoad, aRLoad, aLLoad, aIStore, aRStore, aPush, aBin, aBinL, aShL, aUn, aIf, aIc, aGet, aPut, aIald, aBald, aAald, aIast, aBast, aAast, aAlen, aCopy, aCallV, aCallC, aCallI, aRet, aCat, aMax, aMin, aDiv, aRem, aI2l, aL2i, aNul, aSwS, aSw, aInc, aDup, aDup2, aPop1, aIret, aAret, aVret, aLen, aFk, aFT, Value.category, m_sh, m_p, rl, rn, r_in, ro, q1, e6, nI_s, rs]
theorem PO_par {o a : Nat} (hf : isF f) (hX : pX f L X rb) (hY : pY L Y rb) (hu : u = 0 ∧ nm = 2001 ∨ u = 1 ∧ nm = 2002) (ho : o < 5) (ha : a < L) (hc : rb a = 40) (hP : PC f L u nm X Y 0 (o + 1) (a + 1)) : PO f L u nm X Y o a := by
  have hff : f ≤ 63 := by rcases hf with rfl | rfl | rfl <;> omega
  have hL := hX.1
  have hcb : X (f + 11) a = 40 := (bRel_k (k := 40) (hX.2 a ha) (by decide)).mpr hc
  obtain ⟨b, a', s, h1, h2, h3, kc, kr⟩ := hP
  have g2 : ¬ nI L ≤ nI a := nI_ge ha (by omega)
  have go : ¬ (5 : Int32) ≤ nI o := nI_ge (b := 5) ho (by omega)
  have ne5 : ¬ o = 5 := by omega
  have ib := (nI_byte (n := 40) (by decide)).2
  rw [show nI 40 = (40 : Int32) from rfl] at ib
  have cls : ∀ (d : Nat) (st : List (Int32 × Int32)) (I : Nat → Nat → Int32) (B : Bool) (A : Nat) (S : List (Int32 × Int32)), CS u L X a st I → (∃ I2, aCall aMt (d + 7) 42 [.ref 94, .int (nI (o + 1))] (HH (aUpd I 94 3 (nI (a + 1))) (some (f + 11)) (some nm)) = some (some (.int (if B then 1 else 0)), HH I2 (some (f + 11)) (some nm)) ∧ (if B = true then CS u L X A (st ++ S) I2 else CF L X A I2)) → ∃ I1, aCall aMt (d + 8) 40 [.ref 94, .int (nI o)] (HH I (some (f + 11)) (some nm)) = some (some (.int (if B then 1 else 0)), HH I1 (some (f + 11)) (some nm)) ∧ (if B = true then CS u L X A (st ++ S) I1 else CF L X A I1) := by
    intro d st I B A S hI h42
    have ix := k_indexOf (d := d + 2) (I := I) (x := some (f + 11)) (y := some nm) (n := 40) (by decide) hu
    rw [nix_no (fun z => by have := isNm_ix z (by decide); omega), show nI 40 = (40 : Int32) from rfl] at ix
    have hi11 : I (f + 11) a = 40 := by rw [hI.2.2.2.2 (f + 11) (by omega) (by omega) (by omega) (by omega), hcb]
    obtain ⟨I2, r1, r2⟩ := h42
    refine ⟨I2, ?_, r2⟩
    rw [e_40, ← r1]
    rcases hu with ⟨rfl, rfl⟩ | ⟨rfl, rfl⟩ <;> simp [s_40, aILoad, aRLoad, aLLoad, aIStore, aRStore, aPush, aBin, aBinL, aShL, aUn, aIf, aIc, aGet, aPut, aIald, aBald, aAald, aIast, aBast, aAast, aAlen, aCopy, aCallV, aCallC, aCallI, aRet, aCat, aMax, aMin, aDiv, aRem, aI2l, aL2i, aNul, aSwS, aSw, aInc, aDup, aDup2, aPop1, aIret, aAret, aVret, aLen, aFk, aFT, Value.category, c_sh, c_q, f_sh hf, hI.1, hI.2.1, g2, hi11, k_isIn, ib, ix, go, toNat_nI (show a < 2 ^ 31 by omega), nI_lt0 (show a < 2 ^ 31 by omega), show ¬ 60 ≤ a by omega, nI_1, r1]
  have nm40 : ¬ isNm u 40 := fun z => by
    have z' : isNm u (nI 40) := z
    have := isNm_ix z' (by decide); omega
  cases b with
  | false =>
    refine ⟨false, a', [], by omega, h2, (fun z => by cases z), fun dd st I hdd hst hI => ?_, fun dd st J x y hdd hst hJ => ?_⟩
    · obtain ⟨d, rfl⟩ : ∃ d, dd = d + 8 := ⟨dd - 8, by omega⟩
      obtain ⟨I1, q1, q2⟩ := kc (d + 6) st (aUpd I 94 3 (nI (a + 1))) (by omega) (by omega) hI.at
      refine cls d st I false a' [] hI ⟨I1, ?_, q2⟩
      rw [nI_lit0] at q1
      simp only [Bool.false_eq_true, if_false] at q1
      rw [e_42]; simp [s_42, aILoad, aRLoad, aLLoad, aIStore, aRStore, aPush, aBin, aBinL, aShL, aUn, aIf, aIc, aGet, aPut, aIald, aBald, aAald, aIast, aBast, aAast, aAlen, aCopy, aCallV, aCallC, aCallI, aRet, aCat, aMax, aMin, aDiv, aRem, aI2l, aL2i, aNul, aSwS, aSw, aInc, aDup, aDup2, aPop1, aIret, aAret, aVret, aLen, aFk, aFT, Value.category, c_sh, q1]
    · obtain ⟨d, rfl⟩ : ∃ d, dd = d + 6 := ⟨dd - 6, by omega⟩
      have rl := r_look (d := d + 4) (x := x) (y := y) hY (show a ≤ L by omega) hJ.f
      rw [show lk rb L a = 40 by unfold lk; rw [if_pos ha, hc]] at rl
      have rn := (r_isName (d := d + 4) (I := J) (x := x) (y := y) (c := 40) (by omega) hJ.2.2.2.1).2 nm40
      have ro := r_opens (d := d + 4) (x := x) (y := y) hJ (by omega)
      rw [if_neg ne5] at ro
      obtain ⟨J1, q1, q2⟩ := kr (d + 5) st _ x y (by omega) (by omega) (hJ.opn (q := o + 1) (b := a + 1))
      rw [show rM 0 = 135 from rfl] at q1
      simp only [Bool.false_eq_true, if_false] at q1 q2 ⊢
      refine ⟨J1, ?_, q2⟩
      rw [e_141]
      simp [s_141, aILoad, aRLoad, aLLoad, aIStore, aRStore, aPush, aBin, aBinL, aShL, aUn, aIf, aIc, aGet, aPut, aIald, aBald, aAald, aIast, aBast, aAast, aAlen, aCopy, aCallV, aCallC, aCallI, aRet, aCat, aMax, aMin, aDiv, aRem, aI2l, aL2i, aNul, aSwS, aSw, aInc, aDup, aDup2, aPop1, aIret, aAret, aVret, aLen, aFk, aFT, Value.category, m_sh, m_p, rl, rn, r_in, ro, q1]
  | true =>
    have hs := h3 rfl
    by_cases hcl : a' < L ∧ rb a' = 41
    · obtain ⟨c1, c2⟩ := hcl
      have c3 : X (f + 11) a' = 41 := (bRel_k (k := 41) (hX.2 a' c1) (by decide)).mpr c2
      have g3 : ¬ nI L ≤ nI a' := nI_ge c1 (by omega)
      refine ⟨true, a' + 1, s, by omega, by omega, fun _ => ⟨by omega, by omega, hs.2.2⟩, fun dd st I hdd hst hI => ?_, fun dd st J x y hdd hst hJ => ?_⟩
      · obtain ⟨d, rfl⟩ : ∃ d, dd = d + 8 := ⟨dd - 8, by omega⟩
        obtain ⟨I1, q1, q2⟩ := kc (d + 6) st (aUpd I 94 3 (nI (a + 1))) (by omega) (by omega) hI.at
        rw [nI_lit0] at q1
        simp only [if_true] at q1 q2
        have hi11 : I1 (f + 11) a' = 41 := by rw [q2.2.2.2.2 (f + 11) (by omega) (by omega) (by omega) (by omega), c3]
        refine cls d st I true (a' + 1) s hI ⟨aUpd I1 94 3 (nI (a' + 1)), ?_, q2.at⟩
        rw [e_42]; simp [s_42, aILoad, aRLoad, aLLoad, aIStore, aRStore, aPush, aBin, aBinL, aShL, aUn, aIf, aIc, aGet, aPut, aIald, aBald, aAald, aIast, aBast, aAast, aAlen, aCopy, aCallV, aCallC, aCallI, aRet, aCat, aMax, aMin, aDiv, aRem, aI2l, aL2i, aNul, aSwS, aSw, aInc, aDup, aDup2, aPop1, aIret, aAret, aVret, aLen, aFk, aFT, Value.category, c_sh, c_q, f_sh hf, q1, q2.1, q2.2.1, g3, hi11, toNat_nI (show a' < 2 ^ 31 by omega), nI_lt0 (show a' < 2 ^ 31 by omega), show ¬ 60 ≤ a' by omega, nI_1]
      · obtain ⟨d, rfl⟩ : ∃ d, dd = d + 6 := ⟨dd - 6, by omega⟩
        have rl := r_look (d := d + 4) (x := x) (y := y) hY (show a ≤ L by omega) hJ.f
        rw [show lk rb L a = 40 by unfold lk; rw [if_pos ha, hc]] at rl
        have rn := (r_isName (d := d + 4) (I := J) (x := x) (y := y) (c := 40) (by omega) hJ.2.2.2.1).2 nm40
        have ro := r_opens (d := d + 4) (x := x) (y := y) hJ (by omega)
        rw [if_neg ne5] at ro
        obtain ⟨J1, q1, q2⟩ := kr (d + 5) st _ x y (by omega) (by omega) (hJ.opn (q := o + 1) (b := a + 1))
        rw [show rM 0 = 135 from rfl] at q1
        simp only [if_true] at q1 q2 ⊢
        have rl2 := r_look (d := d + 4) (x := x) (y := y) hY (show a' ≤ L by omega) q2.f
        rw [show lk rb L a' = 41 by unfold lk; rw [if_pos c1, c2]] at rl2
        have e6 : aUpd J1 113 5 (nI (a' + 1)) 113 6 = nI (o + 1) := by rw [aUpd_row, upd_ne (by omega)]; exact q2.2.1
        refine ⟨_, ?_, (q2.at (b := a' + 1)).op (q := o)⟩
        rw [e_141]
        simp [s_141, aILoad, aRLoad, aLLoad, aIStore, aRStore, aPush, aBin, aBinL, aShL, aUn, aIf, aIc, aGet, aPut, aIald, aBald, aAald, aIast, aBast, aAast, aAlen, aCopy, aCallV, aCallC, aCallI, aRet, aCat, aMax, aMin, aDiv, aRem, aI2l, aL2i, aNul, aSwS, aSw, aInc, aDup, aDup2, aPop1, aIret, aAret, aVret, aLen, aFk, aFT, Value.category, m_sh, m_p, rl, rn, r_in, ro, q1, rl2, q2.1, e6, nI_s, nI_1]
    · refine ⟨false, a', [], by omega, h2, (fun z => by cases z), fun dd st I hdd hst hI => ?_, fun dd st J x y hdd hst hJ => ?_⟩
      · obtain ⟨d, rfl⟩ : ∃ d, dd = d + 8 := ⟨dd - 8, by omega⟩
        obtain ⟨I1, q1, q2⟩ := kc (d + 6) st (aUpd I 94 3 (nI (a + 1))) (by omega) (by omega) hI.at
        rw [nI_lit0] at q1
        simp only [if_true] at q1 q2
        refine cls d st I false a' [] hI ⟨I1, ?_, q2.f⟩
        rw [e_42]
        by_cases c1 : a' < L
        · have g3 : ¬ nI L ≤ nI a' := nI_ge c1 (by omega)
          have c3 : ¬ X (f + 11) a' = 41 := fun z => hcl ⟨c1, (bRel_k (k := 41) (hX.2 a' c1) (by decide)).mp z⟩
          have hi11 : I1 (f + 11) a' = X (f + 11) a' := by rw [q2.2.2.2.2 (f + 11) (by omega) (by omega) (by omega) (by omega)]
          simp [s_42, aILoad, aRLoad, aLLoad, aIStore, aRStore, aPush, aBin, aBinL, aShL, aUn, aIf, aIc, aGet, aPut, aIald, aBald, aAald, aIast, aBast, aAast, aAlen, aCopy, aCallV, aCallC, aCallI, aRet, aCat, aMax, aMin, aDiv, aRem, aI2l, aL2i, aNul, aSwS, aSw, aInc, aDup, aDup2, aPop1, aIret, aAret, aVret, aLen, aFk, aFT, Value.category, c_sh, c_q, f_sh hf, q1, q2.1, q2.2.1, g3, hi11, c3, toNat_nI (show a' < 2 ^ 31 by omega), nI_lt0 (show a' < 2 ^ 31 by omega), show ¬ 60 ≤ a' by omega]
        · have g3 : nI L ≤ nI a' := nI_le (by omega) (by omega)
          simp [s_42, aILoad, aRLoad, aLLoad, aIStore, aRStore, aPush, aBin, aBinL, aShL, aUn, aIf, aIc, aGet, aPut, aIald, aBald, aAald, aIast, aBast, aAast, aAlen, aCopy, aCallV, aCallC, aCallI, aRet, aCat, aMax, aMin, aDiv, aRem, aI2l, aL2i, aNul, aSwS, aSw, aInc, aDup, aDup2, aPop1, aIret, aAret, aVret, aLen, aFk, aFT, Value.category, c_sh, c_q, q1, q2.1, q2.2.1, g3]
      · obtain ⟨d, rfl⟩ : ∃ d, dd = d + 6 := ⟨dd - 6, by omega⟩
        have rl := r_look (d := d + 4) (x := x) (y := y) hY (show a ≤ L by omega) hJ.f
        rw [show lk rb L a = 40 by unfold lk; rw [if_pos ha, hc]] at rl
        have rn := (r_isName (d := d + 4) (I := J) (x := x) (y := y) (c := 40) (by omega) hJ.2.2.2.1).2 nm40
        have ro := r_opens (d := d + 4) (x := x) (y := y) hJ (by omega)
        rw [if_neg ne5] at ro
        obtain ⟨J1, q1, q2⟩ := kr (d + 5) st _ x y (by omega) (by omega) (hJ.opn (q := o + 1) (b := a + 1))
        rw [show rM 0 = 135 from rfl] at q1
        simp only [if_true] at q1 q2
        have rl2 := r_look (d := d + 4) (x := x) (y := y) hY (show a' ≤ L by omega) q2.f
        have l41 : ¬ lk rb L a' = 41 := fun z => by
          unfold lk at z
          by_cases c1 : a' < L
          · rw [if_pos c1] at z; exact hcl ⟨c1, z⟩
          · rw [if_neg c1] at z; exact absurd z (by decide)
        refine ⟨J1, ?_, q2.f⟩
        rw [e_141]
        simp [s_141, aILoad, aRLoad, aLLoad, aIStore, aRStore, aPush, aBin, aBinL, aShL, aUn, aIf, aIc, aGet, aPut, aIald, aBald, aAald, aIast, aBast, aAast, aAlen, aCopy, aCallV, aCallC, aCallI, aRet, aCat, aMax, aMin, aDiv, aRem, aI2l, aL2i, aNul, aSwS, aSw, aInc, aDup, aDup2, aPop1, aIret, aAret, aVret, aLen, aFk, aFT, Value.category, m_sh, m_p, rl, rn, r_in, ro, q1, rl2, l41]
theorem PO_all {o a : Nat} (hf : isF f) (hX : pX f L X rb) (hY : pY L Y rb) (hu : u = 0 ∧ nm = 2001 ∨ u = 1 ∧ nm = 2002) (ho : o ≤ 5) (ha : a ≤ L) (h1 : o < 5 → a < L → PO f L u nm X Y (o + 1) (a + 1)) (h2 : o < 5 → a < L → PC f L u nm X Y 0 (o + 1) (a + 1)) : PO f L u nm X Y o a := by
  by_cases c : a < L
  · have el : lk rb L a = rb a := if_pos c
    by_cases hd : 48 ≤ rb a ∧ rb a ≤ 57
    · exact PO_num hf hX hY (by omega) c hd
    by_cases hn : isNm u (rb a)
    · exact PO_name hf hX hY hu c hn
    by_cases h5 : o = 5
    · exact PO_no hf hX hY hu ho ha (by rw [el]; exact hd) (by rw [el]; exact hn) (Or.inl h5)
    by_cases k1 : rb a = 33
    · exact PO_not hf hX hY hu (by omega) c k1 (h1 (by omega) c)
    by_cases k2 : rb a = 40
    · exact PO_par hf hX hY hu (by omega) c k2 (h2 (by omega) c)
    · exact PO_no hf hX hY hu ho ha (by rw [el]; exact hd) (by rw [el]; exact hn) (Or.inr ⟨by rw [el]; exact k1, by rw [el]; exact k2⟩)
  · have el : lk rb L a = -1 := if_neg c
    refine PO_no hf hX hY hu ho ha (by rw [el]; decide) (by rw [el]; rintro (z | z | ⟨_, z⟩ | ⟨_, z⟩) <;> exact absurd z (by decide)) (Or.inr ⟨by rw [el]; decide, by rw [el]; decide⟩)
end TEXT4
