/-! the calls in pairs: text -/
section TEXT9
variable {d : Nat} {I : Nat → Nat → Int32} {x y : Option Nat}
theorem text_end {f P T : Nat} {K J : Nat → Nat → Int32} (h1 : f = 1) (h : Rel I) (hA : relA f K (J 114) P T) (hK : ∀ r, r < f ∨ f + 30 < r → (r < 94 ∨ 97 < r) → K r = I r) (hJ : ∀ r, r ≠ 113 → r ≠ 114 → r ≠ 118 → J r = K r) (h3 : J 113 3 = I 113 3) (h14 : J 113 14 = I 113 14) : Rel J := by
  subst h1
  have e : ∀ r, r < 113 → J r = K r := fun r hr => hJ r (by omega) (by omega) (by omega)
  refine Rel2.now (P := P) (T := T) h (fun r hr => ?_) (h.2.2.1.rows fun r b c => ?_) h3 h14 (fun r hr => ?_) (hA.rows fun r b c => e r (by omega))
  · unfold liveI at hr; rw [e r (by omega), hK r (by omega) (by omega)]
  · rw [e r (by omega), hK r (by omega) (by omega)]
  · unfold liveJ at hr; rw [hJ r (by omega) (by omega) (by omega), hK r (by omega) (by omega)]
theorem text_go {f P T u nm la : Nat} (h : Rel I) (h1 : f = 1) (hf : isF f) (hA : relA f I (I 114) P T) (hu : u = 0 ∧ nm = 2001 ∨ u = 1 ∧ nm = 2002) (hla : u = 0 ∧ la = f + 3 ∨ u = 1 ∧ la = f + 7) : ∃ v I1 x1 y1 I2, aCall aMt (d + 100) 74 [.ref 0, .int (nI u)] (HH I x y) = some (some (.int v), HH I1 x1 y1) ∧ aCall aMt (d + 100) 143 [.ref 113, .int (nI u)] (HH I1 x1 y1) = some (some (.int v), HH I2 x1 y1) ∧ Rel I2 := by
  obtain ⟨L, l1, l2, l3, l4⟩ := hA.2.1.1
  have hla' : isL la := by unfold isL; omega
  have hX : pX f L (tI I L) (fun i => I 114 (370 + i)) := ⟨l1, fun i hi => by rw [tI_ne (by omega) (by omega)]; exact l4 i hi⟩
  have hY0 : ∀ Y : Nat → Nat → Int32, Y 114 = I 114 → pY L Y (fun i => I 114 (370 + i)) := fun Y e => ⟨l1, by rw [e]; exact l3, fun i hi => by rw [e]⟩
  obtain ⟨b, a, I1, ha, i3, i2, iX, kc, kY⟩ := parse_two (d := d) hf hX (hY0 _ (tI_ne (by omega) (by omega))) hu
  have kf := k_faultOf (d := d) (x := x) (y := y) hf l1 hu kc i3 i2 ha
  have e114 : I1 114 = I 114 := iX 114 (by omega) (by omega) (by omega) (by omega)
  have s0 : (u : Nat) < 2 := by omega
  have uin : (0 : Int32) ≤ nI u ∧ nI u ≤ 1 := ⟨nI_pos' (by omega), nI_le (b := 1) (by omega) (by omega)⟩
  have cut : ∀ (K : Nat → Nat → Int32), K 114 = I 114 → K 113 = I 113 → RS u K 0 0 [] (aUpd (aUpd (aUpd (aUpd K 113 8 (nI u)) 113 5 0) 113 6 0) 113 7 0) := fun K _ _ =>
    ⟨by simp [aUpd_row, upd, nI_lit0], by simp [aUpd_row, upd, nI_lit0], by simp [aUpd_row, upd, nI_lit0], by simp [aUpd_row, upd], fun i hi => by simp at hi, fun r p q => by rw [aUpd_ne p, aUpd_ne p, aUpd_ne p, aUpd_ne p], fun k hk => by rw [aUpd_row, upd_ne (by omega), aUpd_row, upd_ne (by omega), aUpd_row, upd_ne (by omega), aUpd_row, upd_ne (by omega)]⟩
  by_cases g : b = true ∧ a = L
  · obtain ⟨rfl, rfl⟩ := g
    rw [if_pos ⟨rfl, rfl⟩] at kf
    obtain ⟨K, q1, q2, q3, q4, q5⟩ := k_lawCopy (d := d + 98) (I := aUpd I1 f 8 0) (x := some (f + 11)) (y := some nm) hla' (show isL 95 by unfold isL; omega) (by unfold isL at hla'; omega)
    have K114 : K 114 = I 114 := by rw [q5 114 (by omega) (by omega) (by omega), aUpd_ne (by omega)]; exact e114
    have K113 : K 113 = I 113 := by rw [q5 113 (by omega) (by omega) (by omega), aUpd_ne (by omega)]; exact iX 113 (by omega) (by omega) (by omega) (by omega)
    obtain ⟨s, hs, kr⟩ := kY K (hY0 K K114)
    obtain ⟨s1, s2, s3⟩ := hs rfl
    obtain ⟨J1, j1, j2, j3⟩ := kr _ (some (f + 11)) (some nm) (cut K K114 K113)
    have j4 := j3 rfl
    have J114 : J1 114 = I 114 := by rw [j2.2.1 114 (by omega) (by omega), K114]
    let J2 : Nat → Nat → Int32 := aUpd (aUpd J1 114 5 0) 114 (120 + 125 * u) (nI s.length)
    let J3 : Nat → Nat → Int32 := aCpy J2 118 114 0 (120 + 125 * u + 1) (2 * s.length)
    have J2_113 : J2 113 = J1 113 := by show aUpd (aUpd J1 114 5 0) 114 (120 + 125 * u) (nI s.length) 113 = _; rw [aUpd_ne (by omega), aUpd_ne (by omega)]
    have J2_118 : J2 118 = J1 118 := by show aUpd (aUpd J1 114 5 0) 114 (120 + 125 * u) (nI s.length) 118 = _; rw [aUpd_ne (by omega), aUpd_ne (by omega)]
    have J2_r : ∀ r, r ≠ 114 → J2 r = J1 r := fun r hr => by show aUpd (aUpd J1 114 5 0) 114 (120 + 125 * u) (nI s.length) r = _; rw [aUpd_ne hr, aUpd_ne hr]
    have J3_r : ∀ r, r ≠ 114 → J3 r = J1 r := fun r hr => by show aCpy J2 118 114 0 _ _ r = _; rw [cpy_ne hr, J2_r r hr]
    have lp := r_text_loop (d := d + 99) (x := some (f + 11)) (y := some nm) (n := s.length) (to := 120 + 125 * u) (u := nI u) (g := some (.int 1)) (J := J2) (by omega) (by omega) (by rw [J2_113]; exact j4.2.2.1) (2 * s.length) 0 (by omega)
    rw [aCpy_0, nI_lit0] at lp
    refine ⟨1, K, some (f + 11), some nm, J3, ?_, ?_, ?_⟩
    · rw [e_74]
      rcases hla with ⟨rfl, rfl⟩ | ⟨rfl, rfl⟩
      · rw [nI_lit0] at kf uin ⊢
        simp [s_74, aILoad, aRLoad, aLLoad, aIStore, aRStore, aPush, aBin, aBinL, aShL, aUn, aIf, aIc, aGet, aPut, aIald, aBald, aAald, aIast, aBast, aAast, aAlen, aCopy, aCallV, aCallC, aCallI, aRet, aCat, aMax, aMin, aDiv, aRem, aI2l, aL2i, aNul, aSwS, aSw, aInc, aDup, aDup2, aPop1, aIret, aAret, aVret, aLen, aFk, aFT, Value.category, c_sh, c_q, c_f h1, f_sh hf, f_p hf, k_isUse, l2, kf, k_lawOf0 hf, q1]
      · rw [nI_lit1] at kf uin ⊢
        simp [s_74, aILoad, aRLoad, aLLoad, aIStore, aRStore, aPush, aBin, aBinL, aShL, aUn, aIf, aIc, aGet, aPut, aIald, aBald, aAald, aIast, aBast, aAast, aAlen, aCopy, aCallV, aCallC, aCallI, aRet, aCat, aMax, aMin, aDiv, aRem, aI2l, aL2i, aNul, aSwS, aSw, aInc, aDup, aDup2, aPop1, aIret, aAret, aVret, aLen, aFk, aFT, Value.category, c_sh, c_q, c_f h1, f_sh hf, f_p hf, k_isUse, l2, kf, k_lawOf1 hf, q1]
    · have j5 := j4.2.2.1
      have l5 : J1 114 5 = nI a := by rw [J114]; exact l3
      rw [e_143]
      rcases hla with ⟨rfl, rfl⟩ | ⟨rfl, rfl⟩
      · rw [nI_lit0] at j1 lp uin ⊢
        refine Eq.trans ?_ lp
        simp [s_143, aILoad, aRLoad, aLLoad, aIStore, aRStore, aPush, aBin, aBinL, aShL, aUn, aIf, aIc, aGet, aPut, aIald, aBald, aAald, aIast, aBast, aAast, aAlen, aCopy, aCallV, aCallC, aCallI, aRet, aCat, aMax, aMin, aDiv, aRem, aI2l, aL2i, aNul, aSwS, aSw, aInc, aDup, aDup2, aPop1, aIret, aAret, aVret, aLen, aFk, aFT, Value.category, m_sh, m_p, r_in, j1, j4.1, l5, j5, aUpd_ne, J2]
        try rfl
      · rw [nI_lit1] at j1 lp uin ⊢
        refine Eq.trans ?_ lp
        simp [s_143, aILoad, aRLoad, aLLoad, aIStore, aRStore, aPush, aBin, aBinL, aShL, aUn, aIf, aIc, aGet, aPut, aIald, aBald, aAald, aIast, aBast, aAast, aAlen, aCopy, aCallV, aCallC, aCallI, aRet, aCat, aMax, aMin, aDiv, aRem, aI2l, aL2i, aNul, aSwS, aSw, aInc, aDup, aDup2, aPop1, aIret, aAret, aVret, aLen, aFk, aFT, Value.category, m_sh, m_p, r_in, j1, j4.1, l5, j5, aUpd_ne, J2]
        try rfl
    · have J3_114 : ∀ k, k < 120 + 125 * u + 1 ∨ 120 + 125 * u + 1 + 2 * s.length ≤ k → J3 114 k = upd (upd (I 114) 5 0) (120 + 125 * u) (nI s.length) k := fun k hk => by
        show aCpy J2 118 114 0 (120 + 125 * u + 1) (2 * s.length) 114 k = _
        rw [aCpy_out hk]
        show aUpd (aUpd J1 114 5 0) 114 (120 + 125 * u) (nI s.length) 114 k = _
        rw [aUpd_row, aUpd_row, J114]
      have J3_in : ∀ i, i < s.length → sTx (J3 114) u (2 * i) = (s.getD i (0, 0)).1 ∧ sTx (J3 114) u (2 * i + 1) = (s.getD i (0, 0)).2 := fun i hi => by
        have e : ∀ j, j < 2 * s.length → J3 114 (121 + 125 * u + j) = J1 118 j := fun j hj => by
          show aCpy J2 118 114 0 (120 + 125 * u + 1) (2 * s.length) 114 (121 + 125 * u + j) = _
          rw [aCpy_in (by omega) (by omega), J2_118]; congr 1; omega
        have := j4.2.2.2.2.1 i hi
        exact ⟨(e (2 * i) (by omega)).trans this.1, (e (2 * i + 1) (by omega)).trans this.2⟩
      have Kf : K f = upd (I f) 8 0 := by rw [q5 f (by omega) (by omega) (by omega), aUpd_row, iX f (by omega) (by omega) (by omega) (by omega)]
      have wf := okL_wf (u := u) (names := if u = 0 then names0 else names1) (fun v hv => by
        unfold isNm at hv
        rcases hla with ⟨rfl, _⟩ | ⟨rfl, _⟩
        · rw [if_pos rfl]; unfold names0; simpa using hv
        · rw [if_neg (by decide)]; unfold names1
          rcases hv with h | h | h | h
          · exact Or.inl h
          · exact Or.inr (Or.inr h)
          · exact absurd h.1 (by decide)
          · exact Or.inr (Or.inl h.2)) (T := sTx (J3 114) u) (k0 := 0) s2 rfl (fun i hi => by rw [Nat.zero_add]; exact J3_in i hi)
      rw [Nat.zero_add] at wf
      refine text_end (f := f) (P := P) (T := T) (K := K) h1 h (hA.txt1 (la := la) hla (fun r p1 p2 p3 => ?_) (fun k hk => ?_) ?_ (fun k hk p => ?_) ?_ ⟨s.length, by omega, ?_, ?_, ?_, fun i hi => ?_⟩ ⟨s.length, ?_, Or.inr ⟨fun k hk => ?_, wf.2, by omega⟩⟩) (fun r p1 p2 => ?_) (fun r p1 p2 p3 => ?_) ?_ ?_
      · rw [q5 r (by omega) (by omega) (by omega), aUpd_ne (by omega)]; exact iX r (by omega) (by omega) (by omega) (by omega)
      · rw [Kf, upd_ne hk]
      · rw [Kf, upd_eq]
      · rw [J3_114 k (by omega)]
        have : k ≠ 120 + 125 * u := by omega
        rw [upd_ne this, upd_ne hk]
      · rw [J3_114 5 (by omega), upd_ne (by omega), upd_eq]
      · rw [q2, aUpd_ne (by omega)]; exact s3.2.2.1
      · rw [J3_114 _ (by omega), upd_eq]
      · rw [q3, aUpd_ne (by omega), iX la (by omega) (by omega) (by omega) (by omega)]
        rcases hla with ⟨rfl, rfl⟩ | ⟨rfl, rfl⟩
        · exact hA.1.k.2.1
        · exact hA.1.k.2.2
      · have e1 := J3_in i hi
        have e2 := s3.2.2.2.1 i hi
        have e3 := q4 i (by omega)
        rw [e1.1, e1.2, e3.1, e3.2, aUpd_ne (by omega), aUpd_ne (by omega), show 95 + 1 = 96 from rfl, show 95 + 2 = 97 from rfl, e2.1, e2.2]
        exact cS_e (okL_w s2 i hi)
      · rw [J3_114 _ (by omega), upd_eq]
      · have := wf.1 k hk; rwa [Nat.zero_add] at this
      · rw [q5 r (by omega) (by omega) (by omega), aUpd_ne (by omega)]; exact iX r (by omega) (by omega) (by omega) (by omega)
      · rw [J3_r r p2]; exact j2.2.1 r p1 p3
      · rw [J3_r 113 (by omega), j2.2.2 3 (by omega), K113]
      · rw [J3_r 113 (by omega), j2.2.2 14 (by omega), K113]
  · rw [if_neg g] at kf
    have hK : ∀ r, r ≠ f → r ≠ 94 → r ≠ 95 → r ≠ 96 → r ≠ 97 → aUpd I1 f 8 0 r = I r := fun r p q1 q2 q3 q4 => by rw [aUpd_ne p]; exact iX r q1 q2 q3 q4
    have K114 : aUpd I1 f 8 0 114 = I 114 := hK 114 (by omega) (by omega) (by omega) (by omega) (by omega)
    have K113 : aUpd I1 f 8 0 113 = I 113 := hK 113 (by omega) (by omega) (by omega) (by omega) (by omega)
    obtain ⟨s, hs, kr⟩ := kY _ (hY0 _ K114)
    obtain ⟨J1, j1, j2, j3⟩ := kr _ (some (f + 11)) (some nm) (cut _ K114 K113)
    have J114 : J1 114 = I 114 := by rw [j2.2.1 114 (by omega) (by omega), K114]
    have l5 : J1 114 5 = nI L := by rw [J114]; exact l3
    have na : ¬ nI a = -1 := fun z => nI_pos (show a < 2 ^ 31 by omega) (by rw [z]; decide)
    refine ⟨-10 - nI a, aUpd I1 f 8 0, some (f + 11), some nm, aUpd J1 114 5 0, ?_, ?_, ?_⟩
    · rw [e_74]
      rcases hla with ⟨rfl, rfl⟩ | ⟨rfl, rfl⟩
      · rw [nI_lit0] at kf uin ⊢
        simp [s_74, aILoad, aRLoad, aLLoad, aIStore, aRStore, aPush, aBin, aBinL, aShL, aUn, aIf, aIc, aGet, aPut, aIald, aBald, aAald, aIast, aBast, aAast, aAlen, aCopy, aCallV, aCallC, aCallI, aRet, aCat, aMax, aMin, aDiv, aRem, aI2l, aL2i, aNul, aSwS, aSw, aInc, aDup, aDup2, aPop1, aIret, aAret, aVret, aLen, aFk, aFT, Value.category, c_sh, c_q, c_f h1, f_sh hf, f_p hf, k_isUse, l2, kf, na]
      · rw [nI_lit1] at kf uin ⊢
        simp [s_74, aILoad, aRLoad, aLLoad, aIStore, aRStore, aPush, aBin, aBinL, aShL, aUn, aIf, aIc, aGet, aPut, aIald, aBald, aAald, aIast, aBast, aAast, aAlen, aCopy, aCallV, aCallC, aCallI, aRet, aCat, aMax, aMin, aDiv, aRem, aI2l, aL2i, aNul, aSwS, aSw, aInc, aDup, aDup2, aPop1, aIret, aAret, aVret, aLen, aFk, aFT, Value.category, c_sh, c_q, c_f h1, f_sh hf, f_p hf, k_isUse, l2, kf, na]
    · have a5 := j2.1
      rw [e_143]
      cases b with
      | false =>
        rcases hla with ⟨rfl, rfl⟩ | ⟨rfl, rfl⟩
        · rw [nI_lit0] at j1 uin ⊢
          simp [s_143, aILoad, aRLoad, aLLoad, aIStore, aRStore, aPush, aBin, aBinL, aShL, aUn, aIf, aIc, aGet, aPut, aIald, aBald, aAald, aIast, aBast, aAast, aAlen, aCopy, aCallV, aCallC, aCallI, aRet, aCat, aMax, aMin, aDiv, aRem, aI2l, aL2i, aNul, aSwS, aSw, aInc, aDup, aDup2, aPop1, aIret, aAret, aVret, aLen, aFk, aFT, Value.category, m_sh, m_p, r_in, j1, a5, l5, aUpd_ne]
        · rw [nI_lit1] at j1 uin ⊢
          simp [s_143, aILoad, aRLoad, aLLoad, aIStore, aRStore, aPush, aBin, aBinL, aShL, aUn, aIf, aIc, aGet, aPut, aIald, aBald, aAald, aIast, aBast, aAast, aAlen, aCopy, aCallV, aCallC, aCallI, aRet, aCat, aMax, aMin, aDiv, aRem, aI2l, aL2i, aNul, aSwS, aSw, aInc, aDup, aDup2, aPop1, aIret, aAret, aVret, aLen, aFk, aFT, Value.category, m_sh, m_p, r_in, j1, a5, l5, aUpd_ne]
      | true =>
        have nL : ¬ nI a = nI L := fun z => g ⟨rfl, (nI_eq (by omega) (by omega)).mp z⟩
        have nl : ¬ a = L := fun z => g ⟨rfl, z⟩
        rcases hla with ⟨rfl, rfl⟩ | ⟨rfl, rfl⟩
        · rw [nI_lit0] at j1 uin ⊢
          simp [s_143, aILoad, aRLoad, aLLoad, aIStore, aRStore, aPush, aBin, aBinL, aShL, aUn, aIf, aIc, aGet, aPut, aIald, aBald, aAald, aIast, aBast, aAast, aAlen, aCopy, aCallV, aCallC, aCallI, aRet, aCat, aMax, aMin, aDiv, aRem, aI2l, aL2i, aNul, aSwS, aSw, aInc, aDup, aDup2, aPop1, aIret, aAret, aVret, aLen, aFk, aFT, Value.category, m_sh, m_p, r_in, j1, a5, l5, nL, nl, aUpd_ne]
        · rw [nI_lit1] at j1 uin ⊢
          simp [s_143, aILoad, aRLoad, aLLoad, aIStore, aRStore, aPush, aBin, aBinL, aShL, aUn, aIf, aIc, aGet, aPut, aIald, aBald, aAald, aIast, aBast, aAast, aAlen, aCopy, aCallV, aCallC, aCallI, aRet, aCat, aMax, aMin, aDiv, aRem, aI2l, aL2i, aNul, aSwS, aSw, aInc, aDup, aDup2, aPop1, aIret, aAret, aVret, aLen, aFk, aFT, Value.category, m_sh, m_p, r_in, j1, a5, l5, nL, nl, aUpd_ne]
    · refine text_end (f := f) (P := P) (T := T) (K := aUpd I1 f 8 0) h1 h (hA.txt0 (fun r p1 p2 => hK r (by omega) (by omega) (by omega) (by omega) (by omega)) (fun k hk => ?_) ?_ (fun k hk => ?_) ?_) (fun r p1 p2 => hK r (by omega) (by omega) (by omega) (by omega) (by omega)) (fun r p1 p2 p3 => ?_) ?_ ?_
      · rw [aUpd_row, upd_ne hk, iX f (by omega) (by omega) (by omega) (by omega)]
      · rw [aUpd_row, upd_eq]
      · rw [aUpd_row, upd_ne hk, J114]
      · rw [aUpd_row, upd_eq]
      · rw [aUpd_ne p2]; exact j2.2.1 r p1 p3
      · rw [aUpd_ne (by omega), j2.2.2 3 (by omega), K113]
      · rw [aUpd_ne (by omega), j2.2.2 14 (by omega), K113]
theorem pair_text (u : Int32) : PairT 74 143 [.int u] := by
  intro d I x y h
  obtain ⟨f, P, T, h1, hf, hA⟩ := h.f
  by_cases hu : 0 ≤ u ∧ u ≤ 1
  · rcases in_01 hu with rfl | rfl
    · exact text_go (u := 0) (nm := 2001) (la := f + 3) h h1 hf hA (Or.inl ⟨rfl, rfl⟩) (Or.inl ⟨rfl, rfl⟩)
    · exact text_go (u := 1) (nm := 2002) (la := f + 7) h h1 hf hA (Or.inr ⟨rfl, rfl⟩) (Or.inr ⟨rfl, rfl⟩)
  · refine Pair.ref (d := d + 80) 1 (-1000000001) h ?_ (fun I' hI => ?_)
    · rw [e_74]; simp [s_74, aILoad, aRLoad, aLLoad, aIStore, aRStore, aPush, aBin, aBinL, aShL, aUn, aIf, aIc, aGet, aPut, aIald, aBald, aAald, aIast, aBast, aAast, aAlen, aCopy, aCallV, aCallC, aCallI, aRet, aCat, aMax, aMin, aDiv, aRem, aI2l, aL2i, aNul, aSwS, aSw, aInc, aDup, aDup2, aPop1, aIret, aAret, aVret, aLen, aFk, aFT, Value.category, c_sh, k_isUse, hu, rf_1]
    · rw [e_143]; simp [s_143, aILoad, aRLoad, aLLoad, aIStore, aRStore, aPush, aBin, aBinL, aShL, aUn, aIf, aIc, aGet, aPut, aIald, aBald, aAald, aIast, aBast, aAast, aAlen, aCopy, aCallV, aCallC, aCallI, aRet, aCat, aMax, aMin, aDiv, aRem, aI2l, aL2i, aNul, aSwS, aSw, aInc, aDup, aDup2, aPop1, aIret, aAret, aVret, aLen, aFk, aFT, Value.category, m_sh, m_p, r_in, hu, re_1]
end TEXT9
