/-! the calls in pairs: friday, hours -/
theorem sHour_hi {σ : Nat → Int32} {P T k : Nat} (h7 : σ 7 = nI P) (h8 : σ 8 = nI T) (hP : P ≤ 8) (hT : T ≤ 10) (hk : 1 ≤ k ∧ k ≤ 11 ∨ 120 ≤ k) : sHour σ k = σ k := by
  have e : sHun (upd σ 0 (σ 0 + 1)) P k = σ k := by rw [sHun_ne (fun q hq => by omega), upd_ne (by omega)]
  unfold sHour
  simp only [h7, h8, toNat_nI (show P < 2 ^ 31 by omega), toNat_nI (show T < 2 ^ 31 by omega)]
  split
  · rw [sAge_ne (fun q hq => by omega)]; exact e
  · exact e
theorem sDrawn_hi {σ : Nat → Int32} {P T k : Nat} (hw : wfS σ P T) (h7 : σ 7 = nI P) (h8 : σ 8 = nI T) (hP : P ≤ 8) (hT : T ≤ 10) (hk : 5 ≤ k ∧ k ≤ 8 ∨ 120 ≤ k) : (sDrawn σ).2 k = σ k := by
  unfold sDrawn
  by_cases h0 : P = 0
  · subst h0; rw [if_pos (show σ 7 = 0 from h7)]; exact sHour_hi h7 h8 hP hT (by omega)
  · have hne : ¬ nI P = 0 := nI_ne0 (by omega) (by omega)
    rw [h7, if_neg hne, toNat_nI (by omega)]
    have w2 : wfS (sDraw (sDraw σ)) P T := hw.zz.zz
    have ek : ∀ j, j ≠ 4 → sDraw (sDraw σ) j = σ j := fun j hj => by unfold sDraw; rw [upd_ne hj, upd_ne hj]
    have hp' : sDr (sDraw σ 4) % P < P := Nat.mod_lt _ (by omega)
    have c8 : sDraw (sDraw σ) 8 = nI T := by rw [ek 8 (by decide)]; exact h8
    dsimp only
    rw [sHour_hi (P := P) (T := T) (by rw [sComes_lo (by omega), ek 7 (by decide)]; exact h7) (by rw [sComes_lo (by omega)]; exact c8) hP hT (by omega)]
    rcases hk with hk | hk
    · rw [sComes_lo (by omega), ek k (by omega)]
    · rw [sComes_hi w2 c8 hP hT hp' hk, ek k (by omega)]
def sRun (σ : Nat → Int32) : Nat → (Nat → Int32)
  | 0 => σ
  | n + 1 => (sDrawn (sRun σ n)).2
theorem sRun_ok {σ : Nat → Int32} {P T : Nat} (hw : wfS σ P T) (h7 : σ 7 = nI P) (h8 : σ 8 = nI T) (hP : P ≤ 8) (hT : T ≤ 10) : ∀ n, wfS (sRun σ n) P T ∧ sRun σ n 7 = nI P ∧ sRun σ n 8 = nI T ∧ ∀ k, 5 ≤ k ∧ k ≤ 8 ∨ 120 ≤ k → sRun σ n k = σ k
  | 0 => ⟨hw, h7, h8, fun _ _ => rfl⟩
  | n + 1 => by
    obtain ⟨a, b, c, e⟩ := sRun_ok hw h7 h8 hP hT n
    refine ⟨a.drawn b c hP hT, ?_, ?_, fun k hk => ?_⟩
    · show (sDrawn (sRun σ n)).2 7 = _
      rw [sDrawn_hi a b c hP hT (by omega)]; exact b
    · show (sDrawn (sRun σ n)).2 8 = _
      rw [sDrawn_hi a b c hP hT (by omega)]; exact c
    · show (sDrawn (sRun σ n)).2 k = _
      rw [sDrawn_hi a b c hP hT hk]; exact e k hk
section PAIR10
variable {d : Nat} {I : Nat → Nat → Int32} {x y : Option Nat}
theorem r_fri_loop {a : Int32} {T : Nat} {I0 : Nat → Nat → Int32} (hT : T ≤ 10) (h8 : I0 114 8 = nI T) : ∀ k t (I : Nat → Nat → Int32), t + k = T → I 114 = sThrow (I0 114) a t → (∀ j, j ≠ 114 → I j = I0 j) →
    ∃ I1, aGo (aCall aMt (d + 2)) none cd_180 0 20 [some (.ref 113), some (.int a), some (.int (nI (cnt (sOut (I0 114) a) t))), some (.int (nI t))] [] (HH I x y) = some (some (.int (nI (cnt (sOut (I0 114) a) T))), HH I1 x y) ∧ I1 114 = sMore (sThrow (I0 114) a T) 3 (nI (cnt (sOut (I0 114) a) T)) ∧ (∀ j, j ≠ 114 → I1 j = I0 j) := by
  intro k
  induction k with
  | zero =>
    intro t I ht hI hf
    obtain rfl : t = T := by omega
    refine ⟨aUpd I 114 3 (sHeld (I 114 3 + nI (cnt (sOut (I0 114) a) t)) 0 9999), ?_, by rw [aUpd_row, hI]; rfl, fun j hj => by rw [aUpd_ne hj, hf j hj]⟩
    have e8 : I 114 8 = nI t := by rw [hI, sThrow_ne (fun q hq => by omega)]; exact h8
    have hm := r_more (d := d) (I := I) (x := x) (y := y) (k := 3) (n := nI (cnt (sOut (I0 114) a) t)) (by omega)
    rw [show nI 3 = (3 : Int32) from rfl] at hm
    rw [s_180_20]
    simp [s_180, aILoad, aRLoad, aLLoad, aIStore, aRStore, aPush, aBin, aBinL, aShL, aUn, aIf, aIc, aGet, aPut, aIald, aBald, aAald, aIast, aBast, aAast, aAlen, aCopy, aCallV, aCallC, aCallI, aRet, aCat, aMax, aMin, aDiv, aRem, aI2l, aL2i, aNul, aSwS, aSw, aInc, aDup, aDup2, aPop1, aIret, aAret, aVret, aLen, aFk, aFT, Value.category, m_sh, m_p, e8, hm]
  | succ k ih =>
    intro t I ht hI hf
    have e8 : I 114 8 = nI T := by rw [hI, sThrow_ne (fun q hq => by omega)]; exact h8
    have h1 : ¬ nI T ≤ nI t := nI_ge (by omega) (by omega)
    have e5 : I 114 (55 + 7 * t) = I0 114 (55 + 7 * t) := by rw [hI]; exact sThrow_ne (fun u hu => by omega)
    have e3 : I 114 (53 + 7 * t) = I0 114 (53 + 7 * t) := by rw [hI]; exact sThrow_ne (fun u hu => by omega)
    have a3 : 50 + 7 * t + 3 = 53 + 7 * t := by omega
    have a5 : 50 + 7 * t + 5 = 55 + 7 * t := by omega
    rw [s_180_20]
    by_cases hi : I0 114 (55 + 7 * t) = 1
    · by_cases ha : a ≤ I0 114 (53 + 7 * t)
      · have ec : sOut (I0 114) a t = true := by simp [sOut, sTh, hi, ha]
        have ec2 : (sTh (I0 114) t && decide (a ≤ I0 114 (53 + 7 * t))) = true := ec
        obtain ⟨I1, g1, g2⟩ := ih (t + 1) (aUpd I 114 (55 + 7 * t) 0) (by omega) (by rw [aUpd_row, hI, sThrow, if_pos ec2]) (fun j hj => by rw [aUpd_ne hj, hf j hj])
        rw [cnt, if_pos ec] at g1
        refine ⟨I1, ?_, g2⟩
        rw [← g1]
        simp [s_180, aILoad, aRLoad, aLLoad, aIStore, aRStore, aPush, aBin, aBinL, aShL, aUn, aIf, aIc, aGet, aPut, aIald, aBald, aAald, aIast, aBast, aAast, aAlen, aCopy, aCallV, aCallC, aCallI, aRet, aCat, aMax, aMin, aDiv, aRem, aI2l, aL2i, aNul, aSwS, aSw, aInc, aDup, aDup2, aPop1, aIret, aAret, aVret, aLen, aFk, aFT, Value.category, m_sh, m_p, e8, e5, e3, h1, hi, ha, Int32.not_lt.mpr ha, r_isThere (show t < 10 by omega), r_of (show t < 10 by omega), r_lays2 (show t < 10 by omega), a3, a5, nI_1]
      · have ec : sOut (I0 114) a t = false := by simp [sOut, sTh, hi, ha]
        have ec2 : (sTh (I0 114) t && decide (a ≤ I0 114 (53 + 7 * t))) = false := ec
        obtain ⟨I1, g1, g2⟩ := ih (t + 1) I (by omega) (by rw [hI, sThrow, ec2]; rfl) hf
        rw [cnt, ec] at g1
        refine ⟨I1, ?_, g2⟩
        rw [← g1]
        simp [s_180, aILoad, aRLoad, aLLoad, aIStore, aRStore, aPush, aBin, aBinL, aShL, aUn, aIf, aIc, aGet, aPut, aIald, aBald, aAald, aIast, aBast, aAast, aAlen, aCopy, aCallV, aCallC, aCallI, aRet, aCat, aMax, aMin, aDiv, aRem, aI2l, aL2i, aNul, aSwS, aSw, aInc, aDup, aDup2, aPop1, aIret, aAret, aVret, aLen, aFk, aFT, Value.category, m_sh, m_p, e8, e5, e3, h1, hi, ha, Int32.not_le.mp ha, r_isThere (show t < 10 by omega), r_of (show t < 10 by omega), a3, a5, nI_1]
    · have ec : sOut (I0 114) a t = false := by simp [sOut, sTh, hi]
      have ec2 : (sTh (I0 114) t && decide (a ≤ I0 114 (53 + 7 * t))) = false := ec
      obtain ⟨I1, g1, g2⟩ := ih (t + 1) I (by omega) (by rw [hI, sThrow, ec2]; rfl) hf
      rw [cnt, ec] at g1
      refine ⟨I1, ?_, g2⟩
      rw [← g1]
      simp [s_180, aILoad, aRLoad, aLLoad, aIStore, aRStore, aPush, aBin, aBinL, aShL, aUn, aIf, aIc, aGet, aPut, aIald, aBald, aAald, aIast, aBast, aAast, aAlen, aCopy, aCallV, aCallC, aCallI, aRet, aCat, aMax, aMin, aDiv, aRem, aI2l, aL2i, aNul, aSwS, aSw, aInc, aDup, aDup2, aPop1, aIret, aAret, aVret, aLen, aFk, aFT, Value.category, m_sh, m_p, e8, e5, h1, hi, r_isThere (show t < 10 by omega), a5, nI_1]
theorem sThrow_hi {σ : Nat → Int32} {a : Int32} {T k : Nat} (hT : T ≤ 10) (hk : k < 50 ∨ 120 ≤ k) : sThrow σ a T k = σ k := sThrow_ne (fun t ht => by omega)
theorem inR.add {v : Int32} {m n : Nat} (h : inR v m) (hm : m < 2 ^ 30) (hn : n < 2 ^ 30) : 0 ≤ v + nI n := by
  obtain ⟨j, hj, rfl⟩ := h; rw [nI_add]; exact nI_pos' (by omega)
theorem pair_friday (a : Int32) : Pair 81 180 [.int a] := by
  intro d I x y h
  obtain ⟨f, P, T, h1, hf, hA⟩ := h.f
  have hP := hA.1.1
  have e8 := hA.1.fi.2.2.2.1
  by_cases ha : 0 ≤ a ∧ a ≤ 9
  · obtain ⟨I1, k1, k2, k3⟩ := k_throw (d := d + 17) (x := x) (y := y) (a := a) hf hA.1 hA.2.2
    have hc := cnt_le (sOut (I 114) a) T
    have hw1 := hA.2.2.throw (a := a) hP.1 hP.2 T (Nat.le_refl T)
    have e3 : sThrow (I 114) a T 3 = I 114 3 := sThrow_hi hP.2 (by omega)
    have i3 : I1 f 13 = I 114 3 := by rw [k2.fi.2.2.2.2.2.2.2.1, e3]
    have hm := sMin (m := 9999) ((hA.2.2.2.2.2 3 (by omega) (by omega)).add (n := cnt (sOut (I 114) a) T) (by omega) (by omega))
    have g2 : relF f (aUpd I1 f 13 (sHeld (I 114 3 + nI (cnt (sOut (I 114) a) T)) 0 9999)) (sMore (sThrow (I 114) a T) 3 (nI (cnt (sOut (I 114) a) T))) P T := by
      unfold sMore; rw [e3]; exact k2.setS (k := 3) (by omega)
    have k4 : KH f I (aUpd I1 f 13 (sHeld (I 114 3 + nI (cnt (sOut (I 114) a) T)) 0 9999)) := k3.upd (by omega) (by omega)
    have hc1 : aCall aMt (d + 20) 81 [.ref 0, .int a] (HH I x y) = some (some (.int (nI (cnt (sOut (I 114) a) T))), HH (aUpd I1 f 13 (sHeld (I 114 3 + nI (cnt (sOut (I 114) a) T)) 0 9999)) x y) := by
      rw [e_81, ← hm]; simp [s_81, aILoad, aRLoad, aLLoad, aIStore, aRStore, aPush, aBin, aBinL, aShL, aUn, aIf, aIc, aGet, aPut, aIald, aBald, aAald, aIast, aBast, aAast, aAlen, aCopy, aCallV, aCallC, aCallI, aRet, aCat, aMax, aMin, aDiv, aRem, aI2l, aL2i, aNul, aSwS, aSw, aInc, aDup, aDup2, aPop1, aIret, aAret, aVret, aLen, aFk, aFT, Value.category, c_sh, c_f h1, f_sh hf, k_isIn, ha, k1, i3]
    generalize hJ : aUpd I1 f 13 (sHeld (I 114 3 + nI (cnt (sOut (I 114) a) T)) 0 9999) = J at *
    have e114 : J 114 = I 114 := k4.1 114 (by omega)
    obtain ⟨I2, r1, r2, r3⟩ := r_fri_loop (d := d + 17) (x := x) (y := y) (a := a) (I0 := J) hP.2 (by rw [e114]; exact e8) T 0 J (by omega) rfl (fun j _ => rfl)
    rw [e114] at r1 r2
    rw [cnt, nI_lit0] at r1
    refine Pair.now (v := nI (cnt (sOut (I 114) a) T)) (P := P) (T := T) h h1 (I1 := J) (I2 := I2) hc1 ?_ k4.1 (fun j hj _ _ => r3 j hj) ?_
    · rw [e_180, ← r1]; simp [s_180, aILoad, aRLoad, aLLoad, aIStore, aRStore, aPush, aBin, aBinL, aShL, aUn, aIf, aIc, aGet, aPut, aIald, aBald, aAald, aIast, aBast, aAast, aAlen, aCopy, aCallV, aCallC, aCallI, aRet, aCat, aMax, aMin, aDiv, aRem, aI2l, aL2i, aNul, aSwS, aSw, aInc, aDup, aDup2, aPop1, aIret, aAret, aVret, aLen, aFk, aFT, Value.category, r_in, ha]
    · rw [r2]
      refine hA.mut k4 g2 (fun k hk => ?_) ?_
      · unfold sMore; rw [upd_ne (by omega)]; exact sThrow_hi hP.2 (by omega)
      · unfold sMore
        exact hw1.set (fun q _ z => by omega) (fun q _ z => by omega) (fun q _ z => by omega) (fun q _ z => by omega) (fun q _ z => by omega) (fun q _ z => by omega) (fun q _ z => by omega) (by omega) (fun _ _ => inR.held (m := 9999) (by omega))
  · refine Pair.ref 1 (-1000000001) h ?_ (fun I' hI => ?_)
    · rw [e_81]; simp [s_81, aILoad, aRLoad, aLLoad, aIStore, aRStore, aPush, aBin, aBinL, aShL, aUn, aIf, aIc, aGet, aPut, aIald, aBald, aAald, aIast, aBast, aAast, aAlen, aCopy, aCallV, aCallC, aCallI, aRet, aCat, aMax, aMin, aDiv, aRem, aI2l, aL2i, aNul, aSwS, aSw, aInc, aDup, aDup2, aPop1, aIret, aAret, aVret, aLen, aFk, aFT, Value.category, c_sh, k_isIn, ha, rf_1]
    · rw [e_180]; simp [s_180, aILoad, aRLoad, aLLoad, aIStore, aRStore, aPush, aBin, aBinL, aShL, aUn, aIf, aIc, aGet, aPut, aIald, aBald, aAald, aIast, aBast, aAast, aAlen, aCopy, aCallV, aCallC, aCallI, aRet, aCat, aMax, aMin, aDiv, aRem, aI2l, aL2i, aNul, aSwS, aSw, aInc, aDup, aDup2, aPop1, aIret, aAret, aVret, aLen, aFk, aFT, Value.category, m_sh, m_p, r_in, ha, re_1]
/-- hours by draws, n of them: the class's -/
theorem k_hrs_loop {f P T N : Nat} {I0 : Nat → Nat → Int32} {σ : Nat → Int32} (h1 : f = 1) (hf : isF f) (hN : N < 2 ^ 30) (hw : ∀ n, wfS (sRun σ n) P T) : ∀ k i (I : Nat → Nat → Int32), i + k = N → relF f I (sRun σ i) P T → KH f I0 I →
    ∃ I1, aGo (aCall aMt (d + 7)) none cd_80 0 41 [some (.ref 0), some (.int (nI N)), some (.int (nI i))] [] (HH I x y) = some (some (.int (sRun σ N 1)), HH I1 x y) ∧ relF f I1 (sRun σ N) P T ∧ KH f I0 I1 := by
  intro k
  induction k with
  | zero =>
    intro i I hi hr hk
    obtain rfl : i = N := by omega
    refine ⟨I, ?_, hr, hk⟩
    rw [s_80_41]
    simp [s_80, aILoad, aRLoad, aLLoad, aIStore, aRStore, aPush, aBin, aBinL, aShL, aUn, aIf, aIc, aGet, aPut, aIald, aBald, aAald, aIast, aBast, aAast, aAlen, aCopy, aCallV, aCallC, aCallI, aRet, aCat, aMax, aMin, aDiv, aRem, aI2l, aL2i, aNul, aSwS, aSw, aInc, aDup, aDup2, aPop1, aIret, aAret, aVret, aLen, aFk, aFT, Value.category, c_sh, c_f h1, f_sh hf, hr.fi]
  | succ k ih =>
    intro i I hi hr hk
    have g1 : ¬ nI N ≤ nI i := nI_ge (by omega) (by omega)
    obtain ⟨I2, q1, q2, q3⟩ := k_hourBy (d := d) (x := x) (y := y) hf hr (hw i)
    obtain ⟨I1, p1, p2⟩ := ih (i + 1) I2 (by omega) q2 (hk.trans q3)
    refine ⟨I1, ?_, p2⟩
    rw [← p1, s_80_41]
    simp [s_80, aILoad, aRLoad, aLLoad, aIStore, aRStore, aPush, aBin, aBinL, aShL, aUn, aIf, aIc, aGet, aPut, aIald, aBald, aAald, aIast, aBast, aAast, aAlen, aCopy, aCallV, aCallC, aCallI, aRet, aCat, aMax, aMin, aDiv, aRem, aI2l, aL2i, aNul, aSwS, aSw, aInc, aDup, aDup2, aPop1, aIret, aAret, aVret, aLen, aFk, aFT, Value.category, c_sh, c_f h1, f_sh hf, g1, q1, nI_1]
theorem r_hrs_loop {P T N : Nat} {I0 : Nat → Nat → Int32} (hN : N < 2 ^ 30) (hP : P ≤ 8) (hT : T ≤ 10) (hw : ∀ n, wfS (sRun (I0 114) n) P T) (h7 : ∀ n, sRun (I0 114) n 7 = nI P) (h8 : ∀ n, sRun (I0 114) n 8 = nI T) : ∀ k i (I : Nat → Nat → Int32) (l3 : Option Value), i + k = N → I 114 = sRun (I0 114) i → RG I0 I →
    ∃ I1, aGo (aCall aMt (d + 10)) none cd_179 0 38 [some (.ref 113), some (.int (nI N)), some (.int (nI i)), l3] [] (HH I x y) = some (some (.int (sRun (I0 114) N 1)), HH I1 x y) ∧ I1 114 = sRun (I0 114) N ∧ RG I0 I1 := by
  intro k
  induction k with
  | zero =>
    intro i I l3 hi hr hk
    obtain rfl : i = N := by omega
    refine ⟨I, ?_, hr, hk⟩
    rw [s_179_38]
    simp [s_179, aILoad, aRLoad, aLLoad, aIStore, aRStore, aPush, aBin, aBinL, aShL, aUn, aIf, aIc, aGet, aPut, aIald, aBald, aAald, aIast, aBast, aAast, aAlen, aCopy, aCallV, aCallC, aCallI, aRet, aCat, aMax, aMin, aDiv, aRem, aI2l, aL2i, aNul, aSwS, aSw, aInc, aDup, aDup2, aPop1, aIret, aAret, aVret, aLen, aFk, aFT, Value.category, m_sh, m_p, hr]
  | succ k ih =>
    intro i I l3 hi hr hk
    have g1 : ¬ nI N ≤ nI i := nI_ge (by omega) (by omega)
    obtain ⟨I2, q1, q2, q3⟩ := r_drawnHour (d := d) (x := x) (y := y) (I := I) hP hT (by rw [hr]; exact h7 i) (by rw [hr]; exact h8 i) (by rw [hr]; exact (hw i).ok) (by rw [hr]; exact (hw i).own hP)
    obtain ⟨I1, p1, p2⟩ := ih (i + 1) I2 (some (.int (sDrawn (I 114)).1)) (by omega) (by rw [q2, hr]; rfl) (hk.trans q3)
    refine ⟨I1, ?_, p2⟩
    rw [← p1, s_179_38]
    simp [s_179, aILoad, aRLoad, aLLoad, aIStore, aRStore, aPush, aBin, aBinL, aShL, aUn, aIf, aIc, aGet, aPut, aIald, aBald, aAald, aIast, aBast, aAast, aAlen, aCopy, aCallV, aCallC, aCallI, aRet, aCat, aMax, aMin, aDiv, aRem, aI2l, aL2i, aNul, aSwS, aSw, aInc, aDup, aDup2, aPop1, aIret, aAret, aVret, aLen, aFk, aFT, Value.category, m_sh, m_p, g1, q1, nI_1]
theorem pair_hours (n : Int32) : Pair 80 179 [.int n] := by
  intro d I x y h
  obtain ⟨f, P, T, h1, hf, hA⟩ := h.f
  have hP := hA.1.1
  have e7 := hA.1.fi.2.2.1
  have e8 := hA.1.fi.2.2.2.1
  by_cases hn : 1 ≤ n ∧ n ≤ 40
  · by_cases ho : I 114 0 + n ≤ 9999
    · obtain ⟨N, N1, N2, rfl⟩ := (isIn' (v := n) (a := 1) (b := 40) (by omega) (by omega)).mp hn
      have ok := sRun_ok hA.2.2 e7 e8 hP.1 hP.2
      obtain ⟨I1, k1, k2, k3⟩ := k_hrs_loop (d := d + 12) (x := x) (y := y) (P := P) (T := T) (N := N) (I0 := I) (σ := I 114) h1 hf (by omega) (fun n => (ok n).1) N 0 I (by omega) hA.1 KH.rf
      have e114 : I1 114 = I 114 := k3.1 114 (by omega)
      obtain ⟨I2, r1, r2, r3⟩ := r_hrs_loop (d := d + 9) (x := x) (y := y) (P := P) (T := T) (N := N) (I0 := I1) (by omega) hP.1 hP.2 (fun n => by rw [e114]; exact (ok n).1) (fun n => by rw [e114]; exact (ok n).2.1) (fun n => by rw [e114]; exact (ok n).2.2.1) N 0 I1 none (by omega) rfl RG.rf
      rw [e114] at r1 r2
      rw [nI_lit0] at k1 r1
      refine Pair.now (v := sRun (I 114) N 1) (P := P) (T := T) h h1 (I1 := I1) (I2 := I2) ?_ ?_ k3.1 r3 ?_
      · rw [e_80, ← k1]; simp [s_80, aILoad, aRLoad, aLLoad, aIStore, aRStore, aPush, aBin, aBinL, aShL, aUn, aIf, aIc, aGet, aPut, aIald, aBald, aAald, aIast, aBast, aAast, aAlen, aCopy, aCallV, aCallC, aCallI, aRet, aCat, aMax, aMin, aDiv, aRem, aI2l, aL2i, aNul, aSwS, aSw, aInc, aDup, aDup2, aPop1, aIret, aAret, aVret, aLen, aFk, aFT, Value.category, c_sh, c_f h1, f_sh hf, k_isIn, hn, hA.1.fi, ho]
      · rw [e_179, ← r1]; simp [s_179, aILoad, aRLoad, aLLoad, aIStore, aRStore, aPush, aBin, aBinL, aShL, aUn, aIf, aIc, aGet, aPut, aIald, aBald, aAald, aIast, aBast, aAast, aAlen, aCopy, aCallV, aCallC, aCallI, aRet, aCat, aMax, aMin, aDiv, aRem, aI2l, aL2i, aNul, aSwS, aSw, aInc, aDup, aDup2, aPop1, aIret, aAret, aVret, aLen, aFk, aFT, Value.category, m_sh, m_p, r_in, hn, e114, ho]
      · rw [r2]; exact hA.mut k3 k2 (fun k hk => (ok N).2.2.2 k (by omega)) (ok N).1
    · have ho' := Int32.not_le.mp ho
      refine Pair.ref 3 (-1000000003) h ?_ (fun I' hI => ?_)
      · rw [e_80]; simp [s_80, aILoad, aRLoad, aLLoad, aIStore, aRStore, aPush, aBin, aBinL, aShL, aUn, aIf, aIc, aGet, aPut, aIald, aBald, aAald, aIast, aBast, aAast, aAlen, aCopy, aCallV, aCallC, aCallI, aRet, aCat, aMax, aMin, aDiv, aRem, aI2l, aL2i, aNul, aSwS, aSw, aInc, aDup, aDup2, aPop1, aIret, aAret, aVret, aLen, aFk, aFT, Value.category, c_sh, c_f h1, f_sh hf, k_isIn, hn, hA.1.fi, ho, rf_3]
      · have e0 : I' 114 0 = I 114 0 := by rw [hI 114 (by decide)]
        rw [e_179]; simp [s_179, aILoad, aRLoad, aLLoad, aIStore, aRStore, aPush, aBin, aBinL, aShL, aUn, aIf, aIc, aGet, aPut, aIald, aBald, aAald, aIast, aBast, aAast, aAlen, aCopy, aCallV, aCallC, aCallI, aRet, aCat, aMax, aMin, aDiv, aRem, aI2l, aL2i, aNul, aSwS, aSw, aInc, aDup, aDup2, aPop1, aIret, aAret, aVret, aLen, aFk, aFT, Value.category, m_sh, m_p, r_in, hn, e0, ho, re_3]
  · refine Pair.ref 1 (-1000000001) h ?_ (fun I' hI => ?_)
    · rw [e_80]; simp [s_80, aILoad, aRLoad, aLLoad, aIStore, aRStore, aPush, aBin, aBinL, aShL, aUn, aIf, aIc, aGet, aPut, aIald, aBald, aAald, aIast, aBast, aAast, aAlen, aCopy, aCallV, aCallC, aCallI, aRet, aCat, aMax, aMin, aDiv, aRem, aI2l, aL2i, aNul, aSwS, aSw, aInc, aDup, aDup2, aPop1, aIret, aAret, aVret, aLen, aFk, aFT, Value.category, c_sh, k_isIn, hn, rf_1]
    · rw [e_179]; simp [s_179, aILoad, aRLoad, aLLoad, aIStore, aRStore, aPush, aBin, aBinL, aShL, aUn, aIf, aIc, aGet, aPut, aIald, aBald, aAald, aIast, aBast, aAast, aAlen, aCopy, aCallV, aCallC, aCallI, aRet, aCat, aMax, aMin, aDiv, aRem, aI2l, aL2i, aNul, aSwS, aSw, aInc, aDup, aDup2, aPop1, aIret, aAret, aVret, aLen, aFk, aFT, Value.category, m_sh, m_p, r_in, hn, re_1]
end PAIR10
