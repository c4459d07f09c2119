/-! the calls in pairs: odds -/
theorem bS_1024 {g : Nat → Bool} {P : Nat} (hP : P ≤ 10) : bS g P < 1024 := by
  have h1 := bS_lt g P
  have h2 : 2 ^ P ≤ 2 ^ 10 := Nat.pow_le_pow_right (by decide) hP
  omega
section PAIR12
variable {d : Nat} {I : Nat → Nat → Int32} {x y : Option Nat}
theorem k_gcd_loop {A B : Nat} {H : aH} (hA : A < 2 ^ 30) (hB : B < 2 ^ 30) (h0 : 0 < B) : ∀ c, c < 2 ^ 30 → Nat.gcd A B ≤ c → aGo (aCall aMt d) none cd_113 0 2 [some (.int (nI A)), some (.int (nI B)), some (.int (nI c))] [] H = some (some (.int (nI (Nat.gcd A B))), H) := by
  have hpos := Nat.gcd_pos_of_pos_right A h0
  intro c
  induction c with
  | zero => intro _ hc; omega
  | succ n ih =>
    intro hn hc
    rw [s_113_2]
    by_cases h1 : n = 0
    · subst h1
      have e : Nat.gcd A B = 1 := by omega
      rw [e]
      simp [s_113, aILoad, aRLoad, aLLoad, aIStore, aRStore, aPush, aBin, aBinL, aShL, aUn, aIf, aIc, aGet, aPut, aIald, aBald, aAald, aIast, aBast, aAast, aAlen, aCopy, aCallV, aCallC, aCallI, aRet, aCat, aMax, aMin, aDiv, aRem, aI2l, aL2i, aNul, aSwS, aSw, aInc, aDup, aDup2, aPop1, aIret, aAret, aVret, aLen, aFk, aFT, Value.category, nI_lit1]
    · have g1 : ¬ nI (n + 1) ≤ 1 := nI_ge (a := 1) (b := n + 1) (by omega) (by omega)
      have gz : ¬ nI (n + 1) = 0 := nI_ne0 (by omega) (by omega)
      have m1 := pk_rem (a := A) (d := n + 1) (by omega) (by omega) (by omega)
      have m2 := pk_rem (a := B) (d := n + 1) (by omega) (by omega) (by omega)
      by_cases hd : A % (n + 1) = 0 ∧ B % (n + 1) = 0
      · have hdv : n + 1 ∣ Nat.gcd A B := Nat.dvd_gcd (Nat.dvd_of_mod_eq_zero hd.1) (Nat.dvd_of_mod_eq_zero hd.2)
        have e : Nat.gcd A B = n + 1 := Nat.le_antisymm hc (Nat.le_of_dvd hpos hdv)
        rw [e]
        rw [hd.1, nI_lit0] at m1
        rw [hd.2, nI_lit0] at m2
        simp [s_113, aILoad, aRLoad, aLLoad, aIStore, aRStore, aPush, aBin, aBinL, aShL, aUn, aIf, aIc, aGet, aPut, aIald, aBald, aAald, aIast, aBast, aAast, aAlen, aCopy, aCallV, aCallC, aCallI, aRet, aCat, aMax, aMin, aDiv, aRem, aI2l, aL2i, aNul, aSwS, aSw, aInc, aDup, aDup2, aPop1, aIret, aAret, aVret, aLen, aFk, aFT, Value.category, g1, gz, m1, m2]
      · have hne : Nat.gcd A B ≠ n + 1 := fun z => hd ⟨Nat.mod_eq_zero_of_dvd (z ▸ Nat.gcd_dvd_left A B), Nat.mod_eq_zero_of_dvd (z ▸ Nat.gcd_dvd_right A B)⟩
        have g := ih (by omega) (by omega)
        rw [← g]
        by_cases ha : A % (n + 1) = 0
        · have hb : ¬ nI (B % (n + 1)) = 0 := nI_ne0 (Nat.pos_of_ne_zero fun z => hd ⟨ha, z⟩) (Nat.lt_of_le_of_lt (Nat.mod_le _ _) (by omega))
          rw [ha, nI_lit0] at m1
          simp [s_113, aILoad, aRLoad, aLLoad, aIStore, aRStore, aPush, aBin, aBinL, aShL, aUn, aIf, aIc, aGet, aPut, aIald, aBald, aAald, aIast, aBast, aAast, aAlen, aCopy, aCallV, aCallC, aCallI, aRet, aCat, aMax, aMin, aDiv, aRem, aI2l, aL2i, aNul, aSwS, aSw, aInc, aDup, aDup2, aPop1, aIret, aAret, aVret, aLen, aFk, aFT, Value.category, g1, gz, m1, m2, hb, nI_p]
        · have hb : ¬ nI (A % (n + 1)) = 0 := nI_ne0 (Nat.pos_of_ne_zero ha) (Nat.lt_of_le_of_lt (Nat.mod_le _ _) (by omega))
          simp [s_113, aILoad, aRLoad, aLLoad, aIStore, aRStore, aPush, aBin, aBinL, aShL, aUn, aIf, aIc, aGet, aPut, aIald, aBald, aAald, aIast, aBast, aAast, aAlen, aCopy, aCallV, aCallC, aCallI, aRet, aCat, aMax, aMin, aDiv, aRem, aI2l, aL2i, aNul, aSwS, aSw, aInc, aDup, aDup2, aPop1, aIret, aAret, aVret, aLen, aFk, aFT, Value.category, g1, gz, m1, hb, nI_p]
theorem k_gcd {A B : Nat} {H : aH} (hA : A < 2 ^ 30) (hB : B < 2 ^ 30) (h0 : 0 < B) : aCall aMt (d + 1) 113 [.int (nI A), .int (nI B)] H = some (some (.int (nI (Nat.gcd A B))), H) := by
  have g := k_gcd_loop (d := d) (H := H) hA hB h0 B hB (Nat.le_of_dvd h0 (Nat.gcd_dvd_right A B))
  rw [e_113, ← g]
  simp [s_113, aILoad, aRLoad, aLLoad, aIStore, aRStore, aPush, aBin, aBinL, aShL, aUn, aIf, aIc, aGet, aPut, aIald, aBald, aAald, aIast, aBast, aAast, aAlen, aCopy, aCallV, aCallC, aCallI, aRet, aCat, aMax, aMin, aDiv, aRem, aI2l, aL2i, aNul, aSwS, aSw, aInc, aDup, aDup2, aPop1, aIret, aAret, aVret, aLen, aFk, aFT, Value.category]
theorem r_gcd_loop {a b : Int32} {H : aH} : ∀ n y x l, y ≤ n → x < 2 ^ 30 → y < 2 ^ 30 → aGo (aCall aMt d) none cd_191 0 4 [some (.int a), some (.int b), some (.int (nI x)), some (.int (nI y)), l] [] H = some (some (.int (nI (Nat.gcd x y))), H) := by
  intro n
  induction n with
  | zero =>
    intro y x l hy hx _
    obtain rfl : y = 0 := by omega
    rw [s_191_4, Nat.gcd_zero_right]
    simp [s_191, aILoad, aRLoad, aLLoad, aIStore, aRStore, aPush, aBin, aBinL, aShL, aUn, aIf, aIc, aGet, aPut, aIald, aBald, aAald, aIast, aBast, aAast, aAlen, aCopy, aCallV, aCallC, aCallI, aRet, aCat, aMax, aMin, aDiv, aRem, aI2l, aL2i, aNul, aSwS, aSw, aInc, aDup, aDup2, aPop1, aIret, aAret, aVret, aLen, aFk, aFT, Value.category, nI_lit0]
  | succ n ih =>
    intro y x l hy hx hy2
    by_cases h0 : y = 0
    · subst h0
      rw [s_191_4, Nat.gcd_zero_right]
      simp [s_191, aILoad, aRLoad, aLLoad, aIStore, aRStore, aPush, aBin, aBinL, aShL, aUn, aIf, aIc, aGet, aPut, aIald, aBald, aAald, aIast, aBast, aAast, aAlen, aCopy, aCallV, aCallC, aCallI, aRet, aCat, aMax, aMin, aDiv, aRem, aI2l, aL2i, aNul, aSwS, aSw, aInc, aDup, aDup2, aPop1, aIret, aAret, aVret, aLen, aFk, aFT, Value.category, nI_lit0]
    · have gz : ¬ nI y = 0 := nI_ne0 (by omega) (by omega)
      have m1 := pk_rem (a := x) (d := y) (by omega) (by omega) (by omega)
      have hlt := Nat.mod_lt x (show 0 < y by omega)
      have g := ih (x % y) y (some (.int (nI (x % y)))) (by omega) hy2 (by omega)
      have e : Nat.gcd y (x % y) = Nat.gcd x y := by rw [Nat.gcd_comm y, ← Nat.gcd_rec, Nat.gcd_comm]
      rw [e] at g
      rw [s_191_4, ← g]
      simp [s_191, aILoad, aRLoad, aLLoad, aIStore, aRStore, aPush, aBin, aBinL, aShL, aUn, aIf, aIc, aGet, aPut, aIald, aBald, aAald, aIast, aBast, aAast, aAlen, aCopy, aCallV, aCallC, aCallI, aRet, aCat, aMax, aMin, aDiv, aRem, aI2l, aL2i, aNul, aSwS, aSw, aInc, aDup, aDup2, aPop1, aIret, aAret, aVret, aLen, aFk, aFT, Value.category, gz, m1]
theorem r_gcd {A B : Nat} {H : aH} (hA : A < 2 ^ 30) (hB : B < 2 ^ 30) : aCall aMt (d + 1) 191 [.int (nI A), .int (nI B)] H = some (some (.int (nI (Nat.gcd A B))), H) := by
  have g := r_gcd_loop (d := d) (H := H) (a := nI A) (b := nI B) B B A none (Nat.le_refl B) hA hB
  rw [e_191, ← g]
  simp [s_191, aILoad, aRLoad, aLLoad, aIStore, aRStore, aPush, aBin, aBinL, aShL, aUn, aIf, aIc, aGet, aPut, aIald, aBald, aAald, aIast, aBast, aAast, aAlen, aCopy, aCallV, aCallC, aCallI, aRet, aCat, aMax, aMin, aDiv, aRem, aI2l, aL2i, aNul, aSwS, aSw, aInc, aDup, aDup2, aPop1, aIret, aAret, aVret, aLen, aFk, aFT, Value.category]
theorem r_odds_loop {v w : Int32} {P T : Nat} {I0 : Nat → Nat → Int32} (hP : P ≤ 8) (hT : T ≤ 10) (h7 : I0 114 7 = nI P) (h8 : I0 114 8 = nI T) (hok : okT (I0 114)) : ∀ k p (I : Nat → Nat → Int32), p + k = P → RF I0 I →
    ∃ I1, aGo (aCall aMt (d + 8)) none cd_192 0 28 [some (.ref 113), some (.int v), some (.int w), some (.int (nI (cnt (sWs (I0 114) 0 v) p + cnt (sWs (I0 114) 1 v) p))), some (.int (nI p)), none] [] (HH I x y) = aGo (aCall aMt (d + 8)) none cd_192 0 84 [some (.ref 113), some (.int v), some (.int w), some (.int (nI (cnt (sWs (I0 114) 0 v) P + cnt (sWs (I0 114) 1 v) P))), some (.int (nI P)), none] [] (HH I1 x y) ∧ RF I0 I1 := by
  intro k
  induction k with
  | zero =>
    intro p I hp hk
    obtain rfl : p = P := by omega
    refine ⟨I, ?_, hk⟩
    rw [s_192_28]
    simp [s_192, aILoad, aRLoad, aLLoad, aIStore, aRStore, aPush, aBin, aBinL, aShL, aUn, aIf, aIc, aGet, aPut, aIald, aBald, aAald, aIast, aBast, aAast, aAlen, aCopy, aCallV, aCallC, aCallI, aRet, aCat, aMax, aMin, aDiv, aRem, aI2l, aL2i, aNul, aSwS, aSw, aInc, aDup, aDup2, aPop1, aIret, aAret, aVret, aLen, aFk, aFT, Value.category, m_sh, m_p, hk.a, h7]
  | succ k ih =>
    intro p I hp hk
    have h1 : ¬ nI P ≤ nI p := nI_ge (by omega) (by omega)
    obtain ⟨I2, h3, h4⟩ := r_wanted (d := d) (x := x) (y := y) (I := I) (p := p) (s := 0) (by omega) hT (by rw [hk.a]; exact h8) (by rw [hk.a]; exact hok)
    have hk2 := hk.trans h4
    obtain ⟨I3, h5, h6⟩ := r_wanted (d := d) (x := x) (y := y) (I := I2) (p := p) (s := 1) (by omega) hT (by rw [hk2.a]; exact h8) (by rw [hk2.a]; exact hok)
    rw [hk.a] at h3
    rw [hk2.a] at h5
    obtain ⟨I1, g1, g2⟩ := ih (p + 1) I3 (by omega) (hk2.trans h6)
    refine ⟨I1, ?_, g2⟩
    have e := hk.a
    rw [s_192_28, ← g1]
    by_cases c0 : sWant (I0 114) p 0 = v <;> by_cases c1 : sWant (I0 114) p 1 = v
    · have ee : cnt (sWs (I0 114) 0 v) (p + 1) + cnt (sWs (I0 114) 1 v) (p + 1) = cnt (sWs (I0 114) 0 v) p + cnt (sWs (I0 114) 1 v) p + 1 + 1 := by
        simp only [cnt, show sWs (I0 114) 0 v p = true by simp [sWs, c0], show sWs (I0 114) 1 v p = true by simp [sWs, c1], if_true, Bool.false_eq_true, if_false]; omega
      rw [ee]
      simp [s_192, aILoad, aRLoad, aLLoad, aIStore, aRStore, aPush, aBin, aBinL, aShL, aUn, aIf, aIc, aGet, aPut, aIald, aBald, aAald, aIast, aBast, aAast, aAlen, aCopy, aCallV, aCallC, aCallI, aRet, aCat, aMax, aMin, aDiv, aRem, aI2l, aL2i, aNul, aSwS, aSw, aInc, aDup, aDup2, aPop1, aIret, aAret, aVret, aLen, aFk, aFT, Value.category, m_sh, m_p, e, h7, h1, h3, h5, c0, c1, nI_1]
    · have ee : cnt (sWs (I0 114) 0 v) (p + 1) + cnt (sWs (I0 114) 1 v) (p + 1) = cnt (sWs (I0 114) 0 v) p + cnt (sWs (I0 114) 1 v) p + 1 := by
        simp only [cnt, show sWs (I0 114) 0 v p = true by simp [sWs, c0], show sWs (I0 114) 1 v p = false by simp [sWs, c1], if_true, Bool.false_eq_true, if_false]; omega
      rw [ee]
      simp [s_192, aILoad, aRLoad, aLLoad, aIStore, aRStore, aPush, aBin, aBinL, aShL, aUn, aIf, aIc, aGet, aPut, aIald, aBald, aAald, aIast, aBast, aAast, aAlen, aCopy, aCallV, aCallC, aCallI, aRet, aCat, aMax, aMin, aDiv, aRem, aI2l, aL2i, aNul, aSwS, aSw, aInc, aDup, aDup2, aPop1, aIret, aAret, aVret, aLen, aFk, aFT, Value.category, m_sh, m_p, e, h7, h1, h3, h5, c0, c1, nI_1]
    · have ee : cnt (sWs (I0 114) 0 v) (p + 1) + cnt (sWs (I0 114) 1 v) (p + 1) = cnt (sWs (I0 114) 0 v) p + cnt (sWs (I0 114) 1 v) p + 1 := by
        simp only [cnt, show sWs (I0 114) 0 v p = false by simp [sWs, c0], show sWs (I0 114) 1 v p = true by simp [sWs, c1], if_true, Bool.false_eq_true, if_false]; omega
      rw [ee]
      simp [s_192, aILoad, aRLoad, aLLoad, aIStore, aRStore, aPush, aBin, aBinL, aShL, aUn, aIf, aIc, aGet, aPut, aIald, aBald, aAald, aIast, aBast, aAast, aAlen, aCopy, aCallV, aCallC, aCallI, aRet, aCat, aMax, aMin, aDiv, aRem, aI2l, aL2i, aNul, aSwS, aSw, aInc, aDup, aDup2, aPop1, aIret, aAret, aVret, aLen, aFk, aFT, Value.category, m_sh, m_p, e, h7, h1, h3, h5, c0, c1, nI_1]
    · have ee : cnt (sWs (I0 114) 0 v) (p + 1) + cnt (sWs (I0 114) 1 v) (p + 1) = cnt (sWs (I0 114) 0 v) p + cnt (sWs (I0 114) 1 v) p := by
        simp only [cnt, show sWs (I0 114) 0 v p = false by simp [sWs, c0], show sWs (I0 114) 1 v p = false by simp [sWs, c1], if_true, Bool.false_eq_true, if_false]; omega
      rw [ee]
      simp [s_192, aILoad, aRLoad, aLLoad, aIStore, aRStore, aPush, aBin, aBinL, aShL, aUn, aIf, aIc, aGet, aPut, aIald, aBald, aAald, aIast, aBast, aAast, aAlen, aCopy, aCallV, aCallC, aCallI, aRet, aCat, aMax, aMin, aDiv, aRem, aI2l, aL2i, aNul, aSwS, aSw, aInc, aDup, aDup2, aPop1, aIret, aAret, aVret, aLen, aFk, aFT, Value.category, m_sh, m_p, e, h7, h1, h3, h5, c0, c1, nI_1]
theorem pair_odds (v w : Int32) : Pair 88 192 [.int v, .int w] := by
  intro d I x y h
  obtain ⟨f, P, T, h1, hf, hA⟩ := h.f
  have hP := hA.1.1
  have e7 := hA.1.fi.2.2.1
  have e8 := hA.1.fi.2.2.2.1
  by_cases ht : 0 ≤ v ∧ v ≤ nI T - 1
  · obtain ⟨t, htT, rfl⟩ := (isIx (by omega)).mp ht
    have ta := k_thingAt (d := d + 17) (x := x) (y := y) hf hA.1 htT
    by_cases hw : 0 ≤ w ∧ w ≤ 1
    · have hP0 : 0 < P := by
        obtain ⟨q, hq, _⟩ := (hA.2.2.2.1 t htT).1
        omega
      obtain ⟨I1, k1, k2⟩ := k_wanters (d := d + 13) (x := x) (y := y) (v := nI t) (s := 0) hf hA.1 hA.2.2.ok hA.2.2.th
      have g1 := hA.1.kf k2
      obtain ⟨I2, k3, k4⟩ := k_wanters (d := d + 13) (x := x) (y := y) (v := nI t) (s := 1) hf g1 hA.2.2.ok hA.2.2.th
      have g2 := g1.kf k4
      have e114 : I2 114 = I 114 := by rw [k4 114 (by omega) (by omega), k2 114 (by omega) (by omega)]
      have b1 := fun H => k_bits (d := d + 18) (H := H) (bS_1024 (g := sWs (I 114) 0 (nI t)) (P := P) (by omega))
      have b2 := fun H => k_bits (d := d + 18) (H := H) (bS_1024 (g := sWs (I 114) 1 (nI t)) (P := P) (by omega))
      rw [pop_bS _ (by omega)] at b1 b2
      have l1 := cnt_le (sWs (I 114) 0 (nI t)) P
      have l2 := cnt_le (sWs (I 114) 1 (nI t)) P
      obtain ⟨I3, r1, r2⟩ := r_odds_loop (d := d + 11) (x := x) (y := y) (v := nI t) (w := w) (I0 := I2) hP.1 hP.2 (by rw [e114]; exact e7) (by rw [e114]; exact e8) (by rw [e114]; exact hA.2.2.ok) P 0 I2 (by omega) RF.rf
      rw [e114] at r1
      rw [cnt, cnt, Nat.add_zero, nI_lit0] at r1
      have r7 : I3 114 7 = nI P := by rw [r2.a, e114]; exact e7
      have e6 := g2.fi.1
      have e6' : I2 f 6 = nI P := e6
      have hk := k_gcd (d := d + 18) (A := cnt (sWs (I 114) 0 (nI t)) P + cnt (sWs (I 114) 1 (nI t)) P) (B := 2 * P) (H := HH I2 x y) (by omega) (by omega) (by omega)
      have hr := r_gcd (d := d + 18) (A := cnt (sWs (I 114) 0 (nI t)) P + cnt (sWs (I 114) 1 (nI t)) P) (B := 2 * P) (H := HH I3 x y) (by omega) (by omega)
      have hg : 0 < Nat.gcd (cnt (sWs (I 114) 0 (nI t)) P + cnt (sWs (I 114) 1 (nI t)) P) (2 * P) := Nat.gcd_pos_of_pos_right _ (by omega)
      have hg2 : Nat.gcd (cnt (sWs (I 114) 0 (nI t)) P + cnt (sWs (I 114) 1 (nI t)) P) (2 * P) ≤ 2 * P := Nat.le_of_dvd (by omega) (Nat.gcd_dvd_right _ _)
      generalize hG : Nat.gcd (cnt (sWs (I 114) 0 (nI t)) P + cnt (sWs (I 114) 1 (nI t)) P) (2 * P) = G at *
      have gz : ¬ nI G = 0 := nI_ne0 hg (by omega)
      rcases in_01 hw with rfl | rfl
      · refine Pair.scr (v := nI (cnt (sWs (I 114) 0 (nI t)) P + cnt (sWs (I 114) 1 (nI t)) P) / nI G) h h1 ?_ ?_ (k2.trans k4) r2
        · rw [e_88]; simp [s_88, aILoad, aRLoad, aLLoad, aIStore, aRStore, aPush, aBin, aBinL, aShL, aUn, aIf, aIc, aGet, aPut, aIald, aBald, aAald, aIast, aBast, aAast, aAlen, aCopy, aCallV, aCallC, aCallI, aRet, aCat, aMax, aMin, aDiv, aRem, aI2l, aL2i, aNul, aSwS, aSw, aInc, aDup, aDup2, aPop1, aIret, aAret, aVret, aLen, aFk, aFT, Value.category, c_sh, c_f h1, f_sh hf, ta, k_isIn, k1, k3, b1, b2, e6', nI_add, nI_m2, hk, gz]
        · rw [e_192]; simp [s_192, aILoad, aRLoad, aLLoad, aIStore, aRStore, aPush, aBin, aBinL, aShL, aUn, aIf, aIc, aGet, aPut, aIald, aBald, aAald, aIast, aBast, aAast, aAlen, aCopy, aCallV, aCallC, aCallI, aRet, aCat, aMax, aMin, aDiv, aRem, aI2l, aL2i, aNul, aSwS, aSw, aInc, aDup, aDup2, aPop1, aIret, aAret, aVret, aLen, aFk, aFT, Value.category, m_sh, m_p, r_isThing, e114, e8, ht, r_in, r1, r7, nI_m2, hr, gz]
      · refine Pair.scr (v := nI (2 * P) / nI G) h h1 ?_ ?_ (k2.trans k4) r2
        · rw [e_88]; simp [s_88, aILoad, aRLoad, aLLoad, aIStore, aRStore, aPush, aBin, aBinL, aShL, aUn, aIf, aIc, aGet, aPut, aIald, aBald, aAald, aIast, aBast, aAast, aAlen, aCopy, aCallV, aCallC, aCallI, aRet, aCat, aMax, aMin, aDiv, aRem, aI2l, aL2i, aNul, aSwS, aSw, aInc, aDup, aDup2, aPop1, aIret, aAret, aVret, aLen, aFk, aFT, Value.category, c_sh, c_f h1, f_sh hf, ta, k_isIn, k1, k3, b1, b2, e6', nI_add, nI_m2, hk, gz]
        · rw [e_192]; simp [s_192, aILoad, aRLoad, aLLoad, aIStore, aRStore, aPush, aBin, aBinL, aShL, aUn, aIf, aIc, aGet, aPut, aIald, aBald, aAald, aIast, aBast, aAast, aAlen, aCopy, aCallV, aCallC, aCallI, aRet, aCat, aMax, aMin, aDiv, aRem, aI2l, aL2i, aNul, aSwS, aSw, aInc, aDup, aDup2, aPop1, aIret, aAret, aVret, aLen, aFk, aFT, Value.category, m_sh, m_p, r_isThing, e114, e8, ht, r_in, r1, r7, nI_m2, hr, gz]
    · refine Pair.ref 1 (-1000000001) h ?_ (fun I' hI => ?_)
      · rw [e_88]; simp [s_88, aILoad, aRLoad, aLLoad, aIStore, aRStore, aPush, aBin, aBinL, aShL, aUn, aIf, aIc, aGet, aPut, aIald, aBald, aAald, aIast, aBast, aAast, aAlen, aCopy, aCallV, aCallC, aCallI, aRet, aCat, aMax, aMin, aDiv, aRem, aI2l, aL2i, aNul, aSwS, aSw, aInc, aDup, aDup2, aPop1, aIret, aAret, aVret, aLen, aFk, aFT, Value.category, c_sh, c_f h1, f_sh hf, ta, k_isIn, hw, rf_1]
      · have e8' : I' 114 8 = nI T := by rw [hI 114 (by decide)]; exact e8
        rw [e_192]; simp [s_192, aILoad, aRLoad, aLLoad, aIStore, aRStore, aPush, aBin, aBinL, aShL, aUn, aIf, aIc, aGet, aPut, aIald, aBald, aAald, aIast, aBast, aAast, aAlen, aCopy, aCallV, aCallC, aCallI, aRet, aCat, aMax, aMin, aDiv, aRem, aI2l, aL2i, aNul, aSwS, aSw, aInc, aDup, aDup2, aPop1, aIret, aAret, aVret, aLen, aFk, aFT, Value.category, m_sh, m_p, r_isThing, e8', ht, r_in, hw, re_1]
  · have ta := k_thingNo (d := d + 17) (x := x) (y := y) hf hA.1 ht
    refine Pair.ref 1 (-1000000001) h ?_ (fun I' hI => ?_)
    · rw [e_88]; simp [s_88, aILoad, aRLoad, aLLoad, aIStore, aRStore, aPush, aBin, aBinL, aShL, aUn, aIf, aIc, aGet, aPut, aIald, aBald, aAald, aIast, aBast, aAast, aAlen, aCopy, aCallV, aCallC, aCallI, aRet, aCat, aMax, aMin, aDiv, aRem, aI2l, aL2i, aNul, aSwS, aSw, aInc, aDup, aDup2, aPop1, aIret, aAret, aVret, aLen, aFk, aFT, Value.category, c_sh, c_f h1, f_sh hf, ta, rf_1]
    · have e8' : I' 114 8 = nI T := by rw [hI 114 (by decide)]; exact e8
      rw [e_192]; simp [s_192, aILoad, aRLoad, aLLoad, aIStore, aRStore, aPush, aBin, aBinL, aShL, aUn, aIf, aIc, aGet, aPut, aIald, aBald, aAald, aIast, aBast, aAast, aAlen, aCopy, aCallV, aCallC, aCallI, aRet, aCat, aMax, aMin, aDiv, aRem, aI2l, aL2i, aNul, aSwS, aSw, aInc, aDup, aDup2, aPop1, aIret, aAret, aVret, aLen, aFk, aFT, Value.category, m_sh, m_p, r_isThing, e8', ht, re_1]
end PAIR12
