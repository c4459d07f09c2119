/-! the calls in pairs: what is only thought: lost, judge -/
section PAIR15
variable {d : Nat} {I : Nat → Nat → Int32} {x y : Option Nat}
/-- both answer v, nothing but scratch changes; more rows are scratch than in Pair.same -/
theorem Pair.gen {cm rm : Nat} {args : List Value} {v : Int32} {I1 I2 : Nat → Nat → Int32} (h : Rel I) (hc : aCall aMt (d + 20) cm (.ref 0 :: args) (HH I x y) = some (some (.int v), HH I1 x y))
    (hr : aCall aMt (d + 20) rm (.ref 113 :: args) (HH I1 x y) = some (some (.int v), HH I2 x y)) (hI : ∀ r, r < 113 → r ≠ 7 → r ≠ 11 → (r < 63 ∨ 94 ≤ r) → r ≠ 104 → I2 r = I r) (hk : kF 63 I2) (hJ : ∀ r, 113 ≤ r → r < 116 ∨ r = 117 ∨ 122 < r → I2 r = I r) :
    ∃ v I1 x1 y1 I2, aCall aMt (d + 20) cm (.ref 0 :: args) (HH I x y) = some (some (.int v), HH I1 x1 y1) ∧ aCall aMt (d + 20) rm (.ref 113 :: args) (HH I1 x1 y1) = some (some (.int v), HH I2 x1 y1) ∧ Rel I2 := by
  obtain ⟨P, T, hA⟩ := h.1
  have hr0 : ∀ r, 1 ≤ r → r ≤ 31 → r ≠ 7 → r ≠ 11 → I2 r = I r := fun r a b c e => hI r (by omega) c e (by omega) (by omega)
  refine ⟨_, _, x, y, _, hc, hr, Rel2.now (P := P) (T := T) h (fun r hr => ?_) hk (by rw [hJ 113 (by omega) (by omega)]) (by rw [hJ 113 (by omega) (by omega)]) (fun r hr => ?_) ?_⟩
  · unfold liveI at hr; exact hI r (by omega) (by omega) (by omega) (by omega) (by omega)
  · unfold liveJ at hr; exact hJ r (by omega) (by omega)
  have e := hJ 114 (by omega) (by omega)
  rw [e]
  have g : relF 1 I2 (I 114) P T := by
    obtain ⟨h1, h2, h3, h4, h5, h6, h7, h8, h9⟩ := hA.1
    refine ⟨h1, by rw [hr0 1 (by omega) (by omega) (by omega) (by omega)]; exact h2, h3, fun p hp => by rw [hr0 _ (by omega) (by omega) (by omega) (by omega)]; exact h4 p hp, fun p hp j hj => by rw [hr0 _ (by omega) (by omega) (by omega) (by omega)]; exact h5 p hp j hj, fun t ht j hj => by rw [hr0 _ (by omega) (by omega) (by omega) (by omega)]; exact h6 t ht j hj, fun k hj => by rw [hr0 1 (by omega) (by omega) (by omega) (by omega)]; exact h7 k hj, relL_congr h8 (hr0 _ (by omega) (by omega) (by omega) (by omega)) (hr0 _ (by omega) (by omega) (by omega) (by omega)) (hr0 _ (by omega) (by omega) (by omega) (by omega)) (fun _ _ _ => rfl), relL_congr h9 (hr0 _ (by omega) (by omega) (by omega) (by omega)) (hr0 _ (by omega) (by omega) (by omega) (by omega)) (hr0 _ (by omega) (by omega) (by omega) (by omega)) (fun _ _ _ => rfl)⟩
  have e1 := hr0 1 (by omega) (by omega) (by omega) (by omega)
  exact ⟨g, hA.2.1.cg (by rw [e1]) (by rw [e1]) (hr0 12 (by omega) (by omega) (by omega) (by omega)) (hr0 13 (by omega) (by omega) (by omega) (by omega)) (fun _ _ => rfl), hA.2.2⟩
/-- the class thinks in its third Fridge, the reference in its row, which is as it was in the end -/
theorem Pair.tho {cm rm : Nat} {args : List Value} {v : Int32} {I1 I2 : Nat → Nat → Int32} (h : Rel I) (hc : aCall aMt (d + 20) cm (.ref 0 :: args) (HH I x y) = some (some (.int v), HH I1 x y))
    (hr : aCall aMt (d + 20) rm (.ref 113 :: args) (HH I1 x y) = some (some (.int v), HH I2 x y)) (hI : ∀ r, r < 63 ∨ 93 < r → I1 r = I r) (hk : kF 63 I1) (h2 : I2 114 = I 114) (hJ : ∀ r, r ≠ 114 → r ≠ 116 → r ≠ 119 → r ≠ 120 → I2 r = I1 r) :
    ∃ v I1 x1 y1 I2, aCall aMt (d + 20) cm (.ref 0 :: args) (HH I x y) = some (some (.int v), HH I1 x1 y1) ∧ aCall aMt (d + 20) rm (.ref 113 :: args) (HH I1 x1 y1) = some (some (.int v), HH I2 x1 y1) ∧ Rel I2 := by
  refine Pair.gen h hc hr (fun r a b c e g => by rw [hJ r (by omega) (by omega) (by omega) (by omega), hI r (by omega)]) (hk.rows fun r a b => hJ r (by omega) (by omega) (by omega) (by omega)) (fun r a b => ?_)
  by_cases e : r = 114
  · subst e; exact h2
  · rw [hJ r e (by omega) (by omega) (by omega), hI r (by omega)]
theorem r_lay_loop : ∀ k i, i + k = 120 →
    aGo (aCall aMt d) none cd_120 3 2 [some (.ref 113), some (.int (nI i))] [] (HH (aCpy I 114 116 0 0 i) x y) = some (none, HH (aCpy I 114 116 0 0 120) x y) := by
  intro k
  induction k with
  | zero =>
    intro i hi
    obtain rfl : i = 120 := by omega
    have g1 : (120 : Int32) ≤ nI 120 := by decide
    rw [s_120_2]
    simp [s_120, aILoad, aRLoad, aLLoad, aIStore, aRStore, aPush, aBin, aBinL, aShL, aUn, aIf, aIc, aGet, aPut, aIald, aBald, aAald, aIast, aBast, aAast, aAlen, aCopy, aCallV, aCallC, aCallI, aRet, aCat, aMax, aMin, aDiv, aRem, aI2l, aL2i, aNul, aSwS, aSw, aInc, aDup, aDup2, aPop1, aIret, aAret, aVret, aLen, aFk, aFT, Value.category, g1]
  | succ k ih =>
    intro i hi
    have g1 : ¬ (120 : Int32) ≤ nI i := nI_ge (b := 120) (by omega) (by omega)
    have g := ih (i + 1) (by omega)
    rw [← aCpy_s, Nat.zero_add] at g
    have ea : aCpy I 114 116 0 0 i 114 = I 114 := cpy_ne (by omega)
    rw [s_120_2, ← g]
    simp [s_120, aILoad, aRLoad, aLLoad, aIStore, aRStore, aPush, aBin, aBinL, aShL, aUn, aIf, aIc, aGet, aPut, aIald, aBald, aAald, aIast, aBast, aAast, aAlen, aCopy, aCallV, aCallC, aCallI, aRet, aCat, aMax, aMin, aDiv, aRem, aI2l, aL2i, aNul, aSwS, aSw, aInc, aDup, aDup2, aPop1, aIret, aAret, aVret, aLen, aFk, aFT, Value.category, m_sh, m_p, g1, ea, toNat_nI (show i < 2 ^ 31 by omega), nI_lt0 (show i < 2 ^ 31 by omega), show ¬ 454 ≤ i by omega, show ¬ 120 ≤ i by omega, nI_1]
theorem r_layDown : aCall aMt (d + 1) 120 [.ref 113] (HH I x y) = some (none, HH (aCpy I 114 116 0 0 120) x y) := by
  have g := r_lay_loop (d := d) (I := I) (x := x) (y := y) 120 0 (by omega)
  rw [aCpy_0, nI_lit0] at g
  rw [e_120, ← g]
  simp [s_120, aILoad, aRLoad, aLLoad, aIStore, aRStore, aPush, aBin, aBinL, aShL, aUn, aIf, aIc, aGet, aPut, aIald, aBald, aAald, aIast, aBast, aAast, aAlen, aCopy, aCallV, aCallC, aCallI, aRet, aCat, aMax, aMin, aDiv, aRem, aI2l, aL2i, aNul, aSwS, aSw, aInc, aDup, aDup2, aPop1, aIret, aAret, aVret, aLen, aFk, aFT, Value.category]
theorem r_lay2_loop : ∀ k i, i + k = 120 →
    aGo (aCall aMt d) none cd_121 3 2 [some (.ref 113), some (.int (nI i))] [] (HH (aCpy I 116 114 0 0 i) x y) = some (none, HH (aCpy I 116 114 0 0 120) x y) := by
  intro k
  induction k with
  | zero =>
    intro i hi
    obtain rfl : i = 120 := by omega
    have g1 : (120 : Int32) ≤ nI 120 := by decide
    rw [s_121_2]
    simp [s_121, aILoad, aRLoad, aLLoad, aIStore, aRStore, aPush, aBin, aBinL, aShL, aUn, aIf, aIc, aGet, aPut, aIald, aBald, aAald, aIast, aBast, aAast, aAlen, aCopy, aCallV, aCallC, aCallI, aRet, aCat, aMax, aMin, aDiv, aRem, aI2l, aL2i, aNul, aSwS, aSw, aInc, aDup, aDup2, aPop1, aIret, aAret, aVret, aLen, aFk, aFT, Value.category, g1]
  | succ k ih =>
    intro i hi
    have g1 : ¬ (120 : Int32) ≤ nI i := nI_ge (b := 120) (by omega) (by omega)
    have g := ih (i + 1) (by omega)
    rw [← aCpy_s, Nat.zero_add] at g
    have ea : aCpy I 116 114 0 0 i 116 = I 116 := cpy_ne (by omega)
    rw [s_121_2, ← g]
    simp [s_121, aILoad, aRLoad, aLLoad, aIStore, aRStore, aPush, aBin, aBinL, aShL, aUn, aIf, aIc, aGet, aPut, aIald, aBald, aAald, aIast, aBast, aAast, aAlen, aCopy, aCallV, aCallC, aCallI, aRet, aCat, aMax, aMin, aDiv, aRem, aI2l, aL2i, aNul, aSwS, aSw, aInc, aDup, aDup2, aPop1, aIret, aAret, aVret, aLen, aFk, aFT, Value.category, m_sh, m_p, g1, ea, toNat_nI (show i < 2 ^ 31 by omega), nI_lt0 (show i < 2 ^ 31 by omega), show ¬ 454 ≤ i by omega, show ¬ 120 ≤ i by omega, nI_1]
theorem r_layBack : aCall aMt (d + 1) 121 [.ref 113] (HH I x y) = some (none, HH (aCpy I 116 114 0 0 120) x y) := by
  have g := r_lay2_loop (d := d) (I := I) (x := x) (y := y) 120 0 (by omega)
  rw [aCpy_0, nI_lit0] at g
  rw [e_121, ← g]
  simp [s_121, aILoad, aRLoad, aLLoad, aIStore, aRStore, aPush, aBin, aBinL, aShL, aUn, aIf, aIc, aGet, aPut, aIald, aBald, aAald, aIast, aBast, aAast, aAlen, aCopy, aCallV, aCallC, aCallI, aRet, aCat, aMax, aMin, aDiv, aRem, aI2l, aL2i, aNul, aSwS, aSw, aInc, aDup, aDup2, aPop1, aIret, aAret, aVret, aLen, aFk, aFT, Value.category]
theorem lay_back {J : Nat → Nat → Int32} {σ : Nat → Int32} (h : ∀ j, j < 120 → J 116 j = σ j) (h2 : ∀ j, 120 ≤ j → J 114 j = σ j) : aCpy J 116 114 0 0 120 114 = σ := by
  funext j
  by_cases e : j < 120
  · rw [cpy_row e, h j e]
  · rw [aCpy_out (by omega), h2 j (by omega)]
theorem k_lost_loop {f P T N : Nat} {w : Int32} {I0 : Nat → Nat → Int32} {σ : Nat → Int32} (h1 : f = 63) (hf : isF f) (hN : N < 2 ^ 30) (hw : ∀ n, wfS (sRun σ n) P T) : ∀ k i (I : Nat → Nat → Int32), i + k = N → relF f I (sRun σ i) P T → KH f I0 I →
    ∃ I1, aGo (aCall aMt (d + 7)) none cd_90 0 39 [some (.ref 0), some (.int (nI N)), some (.int w), some (.int (nI i))] [] (HH I x y) = aGo (aCall aMt (d + 7)) none cd_90 0 58 [some (.ref 0), some (.int (nI N)), some (.int w), some (.int (nI N))] [] (HH I1 x y) ∧ relF f I1 (sRun σ N) P T ∧ KH f I0 I1 := by
  intro k
  induction k with
  | zero =>
    intro i I hi hr hk
    obtain rfl : i = N := by omega
    refine ⟨I, ?_, hr, hk⟩
    rw [s_90_39]
    simp [s_90, aILoad, aRLoad, aLLoad, aIStore, aRStore, aPush, aBin, aBinL, aShL, aUn, aIf, aIc, aGet, aPut, aIald, aBald, aAald, aIast, aBast, aAast, aAlen, aCopy, aCallV, aCallC, aCallI, aRet, aCat, aMax, aMin, aDiv, aRem, aI2l, aL2i, aNul, aSwS, aSw, aInc, aDup, aDup2, aPop1, aIret, aAret, aVret, aLen, aFk, aFT, Value.category]
  | succ k ih =>
    intro i I hi hr hk
    have g1 : ¬ nI N ≤ nI i := nI_ge (by omega) (by omega)
    obtain ⟨I2, q1, q2, q3⟩ := k_hourBy (d := d) (x := x) (y := y) hf hr (hw i)
    obtain ⟨I1, p1, p2⟩ := ih (i + 1) I2 (by omega) q2 (hk.trans q3)
    refine ⟨I1, ?_, p2⟩
    rw [s_90_39, ← p1]
    simp [s_90, aILoad, aRLoad, aLLoad, aIStore, aRStore, aPush, aBin, aBinL, aShL, aUn, aIf, aIc, aGet, aPut, aIald, aBald, aAald, aIast, aBast, aAast, aAlen, aCopy, aCallV, aCallC, aCallI, aRet, aCat, aMax, aMin, aDiv, aRem, aI2l, aL2i, aNul, aSwS, aSw, aInc, aDup, aDup2, aPop1, aIret, aAret, aVret, aLen, aFk, aFT, Value.category, c_sh, c_h h1, f_sh hf, g1, q1, nI_1]
theorem r_lost_loop {P T N : Nat} {w : Int32} {I0 : Nat → Nat → Int32} (hN : N < 2 ^ 30) (hP : P ≤ 8) (hT : T ≤ 10) (hw : ∀ n, wfS (sRun (I0 114) n) P T) (h7 : ∀ n, sRun (I0 114) n 7 = nI P) (h8 : ∀ n, sRun (I0 114) n 8 = nI T) : ∀ k i (I : Nat → Nat → Int32) (l4 : Option Value), i + k = N → I 114 = sRun (I0 114) i → RG I0 I →
    ∃ I1 l, aGo (aCall aMt (d + 10)) none cd_194 0 31 [some (.ref 113), some (.int (nI N)), some (.int w), some (.int (nI i)), l4] [] (HH I x y) = aGo (aCall aMt (d + 10)) none cd_194 0 48 [some (.ref 113), some (.int (nI N)), some (.int w), some (.int (nI N)), l] [] (HH I1 x y) ∧ I1 114 = sRun (I0 114) N ∧ RG I0 I1 := by
  intro k
  induction k with
  | zero =>
    intro i I l4 hi hr hk
    obtain rfl : i = N := by omega
    refine ⟨I, l4, ?_, hr, hk⟩
    rw [s_194_31]
    simp [s_194, aILoad, aRLoad, aLLoad, aIStore, aRStore, aPush, aBin, aBinL, aShL, aUn, aIf, aIc, aGet, aPut, aIald, aBald, aAald, aIast, aBast, aAast, aAlen, aCopy, aCallV, aCallC, aCallI, aRet, aCat, aMax, aMin, aDiv, aRem, aI2l, aL2i, aNul, aSwS, aSw, aInc, aDup, aDup2, aPop1, aIret, aAret, aVret, aLen, aFk, aFT, Value.category]
  | succ k ih =>
    intro i I l4 hi hr hk
    have g1 : ¬ nI N ≤ nI i := nI_ge (by omega) (by omega)
    obtain ⟨I2, q1, q2, q3⟩ := r_drawnHour (d := d) (x := x) (y := y) (I := I) hP hT (by rw [hr]; exact h7 i) (by rw [hr]; exact h8 i) (by rw [hr]; exact (hw i).ok) (by rw [hr]; exact (hw i).own hP)
    obtain ⟨I1, l, p1, p2⟩ := ih (i + 1) I2 (some (.int (sDrawn (I 114)).1)) (by omega) (by rw [q2, hr]; rfl) (hk.trans q3)
    refine ⟨I1, l, ?_, p2⟩
    rw [s_194_31, ← p1]
    simp [s_194, aILoad, aRLoad, aLLoad, aIStore, aRStore, aPush, aBin, aBinL, aShL, aUn, aIf, aIc, aGet, aPut, aIald, aBald, aAald, aIast, aBast, aAast, aAlen, aCopy, aCallV, aCallC, aCallI, aRet, aCat, aMax, aMin, aDiv, aRem, aI2l, aL2i, aNul, aSwS, aSw, aInc, aDup, aDup2, aPop1, aIret, aAret, aVret, aLen, aFk, aFT, Value.category, m_sh, m_p, g1, q1, nI_1]
theorem pair_lost (n w : Int32) : Pair 90 194 [.int n, .int w] := by
  intro d I x y h
  obtain ⟨f, P, T, h1, hf, hA⟩ := h.f
  obtain ⟨g, hg1⟩ : ∃ g, g = 63 := ⟨63, rfl⟩
  have hg := isF_63 hg1
  have hP := hA.1.1
  have e7 := hA.1.fi.2.2.1
  have e8 := hA.1.fi.2.2.2.1
  by_cases hn : 0 ≤ n ∧ n ≤ 60
  · by_cases hw : 0 ≤ w ∧ w ≤ 1
    · obtain ⟨N, N2, rfl⟩ := in_0n (n := 60) rfl (by omega) hn
      have ok := sRun_ok hA.2.2 e7 e8 hP.1 hP.2
      obtain ⟨I1, c1, c2, c3⟩ := hA.cp (d := d + 17) (x := x) (y := y) hg hf (by omega) (by rw [hg1]; exact h.2.2.1)
      obtain ⟨I2, k1, k2, k3⟩ := k_lost_loop (d := d + 12) (x := x) (y := y) (P := P) (T := T) (N := N) (w := w) (I0 := I1) (σ := I 114) hg1 hg (by omega) (fun n => (ok n).1) N 0 I1 (by omega) c2.1 KH.rf
      have er : ∀ r, r < 63 ∨ 93 < r → I2 r = I r := fun r hr => by rw [k3.1 r (by omega), c3 r (by omega)]
      have el : aCpy I2 114 116 0 0 120 114 = I 114 := by rw [cpy_ne (by omega), er 114 (by omega)]
      obtain ⟨I3, l, r1, r2, r3⟩ := r_lost_loop (d := d + 9) (x := x) (y := y) (P := P) (T := T) (N := N) (w := w) (I0 := aCpy I2 114 116 0 0 120) (by omega) hP.1 hP.2 (fun n => by rw [el]; exact (ok n).1) (fun n => by rw [el]; exact (ok n).2.1) (fun n => by rw [el]; exact (ok n).2.2.1) N 0 _ none (by omega) rfl RG.rf
      rw [el] at r2
      rw [nI_lit0] at k1 r1
      have lb : aCpy I3 116 114 0 0 120 114 = I 114 := lay_back (fun j hj => by rw [r3 116 (by omega) (by omega) (by omega), cpy_row hj, er 114 (by omega)]) (fun j hj => by rw [r2]; exact (ok N).2.2.2 j (by omega))
      have hj : ∀ r, r ≠ 114 → r ≠ 116 → r ≠ 119 → r ≠ 120 → aCpy I3 116 114 0 0 120 r = I2 r := fun r a b c e => by rw [cpy_ne a, r3 r a c e, cpy_ne b]
      have h8' : I3 114 8 = nI T := by rw [r2]; exact (ok N).2.2.1
      have ki := k_inside (d := d + 18) (x := x) (y := y) hg k2 (ok N).1.th
      have rh := r_howMany (d := d + 16) (x := x) (y := y) (I := I3) hP.2 h8'
      rw [r2] at rh
      rcases in_01 hw with rfl | rfl
      · refine Pair.tho (v := sRun (I 114) N 1) h ?_ ?_ er (by have := k2.k; rwa [hg1] at this) lb hj
        · rw [e_90]; simp [s_90, aILoad, aRLoad, aLLoad, aIStore, aRStore, aPush, aBin, aBinL, aShL, aUn, aIf, aIc, aGet, aPut, aIald, aBald, aAald, aIast, aBast, aAast, aAlen, aCopy, aCallV, aCallC, aCallI, aRet, aCat, aMax, aMin, aDiv, aRem, aI2l, aL2i, aNul, aSwS, aSw, aInc, aDup, aDup2, aPop1, aIret, aAret, aVret, aLen, aFk, aFT, Value.category, c_sh, c_f h1, c_h hg1, f_sh hf, f_sh hg, k_isIn, hn, c1, k1, k2.fi]
        · rw [e_194]; simp [s_194, aILoad, aRLoad, aLLoad, aIStore, aRStore, aPush, aBin, aBinL, aShL, aUn, aIf, aIc, aGet, aPut, aIald, aBald, aAald, aIast, aBast, aAast, aAlen, aCopy, aCallV, aCallC, aCallI, aRet, aCat, aMax, aMin, aDiv, aRem, aI2l, aL2i, aNul, aSwS, aSw, aInc, aDup, aDup2, aPop1, aIret, aAret, aVret, aLen, aFk, aFT, Value.category, m_sh, m_p, r_in, hn, r_layDown, r1, r2, r_layBack]
      · refine Pair.tho (v := nI (cnt (sTh (sRun (I 114) N)) T)) h ?_ ?_ er (by have := k2.k; rwa [hg1] at this) lb hj
        · rw [e_90]; simp [s_90, aILoad, aRLoad, aLLoad, aIStore, aRStore, aPush, aBin, aBinL, aShL, aUn, aIf, aIc, aGet, aPut, aIald, aBald, aAald, aIast, aBast, aAast, aAlen, aCopy, aCallV, aCallC, aCallI, aRet, aCat, aMax, aMin, aDiv, aRem, aI2l, aL2i, aNul, aSwS, aSw, aInc, aDup, aDup2, aPop1, aIret, aAret, aVret, aLen, aFk, aFT, Value.category, c_sh, c_f h1, c_h hg1, f_sh hf, f_sh hg, k_isIn, hn, c1, k1, ki]
        · rw [e_194]; simp [s_194, aILoad, aRLoad, aLLoad, aIStore, aRStore, aPush, aBin, aBinL, aShL, aUn, aIf, aIc, aGet, aPut, aIald, aBald, aAald, aIast, aBast, aAast, aAlen, aCopy, aCallV, aCallC, aCallI, aRet, aCat, aMax, aMin, aDiv, aRem, aI2l, aL2i, aNul, aSwS, aSw, aInc, aDup, aDup2, aPop1, aIret, aAret, aVret, aLen, aFk, aFT, Value.category, m_sh, m_p, r_in, hn, r_layDown, r1, rh, r_layBack]
    · refine Pair.ref 1 (-1000000001) h ?_ (fun I' hI => ?_)
      · rw [e_90]; simp [s_90, aILoad, aRLoad, aLLoad, aIStore, aRStore, aPush, aBin, aBinL, aShL, aUn, aIf, aIc, aGet, aPut, aIald, aBald, aAald, aIast, aBast, aAast, aAlen, aCopy, aCallV, aCallC, aCallI, aRet, aCat, aMax, aMin, aDiv, aRem, aI2l, aL2i, aNul, aSwS, aSw, aInc, aDup, aDup2, aPop1, aIret, aAret, aVret, aLen, aFk, aFT, Value.category, c_sh, k_isIn, hn, hw, rf_1]
      · rw [e_194]; simp [s_194, aILoad, aRLoad, aLLoad, aIStore, aRStore, aPush, aBin, aBinL, aShL, aUn, aIf, aIc, aGet, aPut, aIald, aBald, aAald, aIast, aBast, aAast, aAlen, aCopy, aCallV, aCallC, aCallI, aRet, aCat, aMax, aMin, aDiv, aRem, aI2l, aL2i, aNul, aSwS, aSw, aInc, aDup, aDup2, aPop1, aIret, aAret, aVret, aLen, aFk, aFT, Value.category, m_sh, r_in, hn, hw, re_1]
  · refine Pair.ref 1 (-1000000001) h ?_ (fun I' hI => ?_)
    · rw [e_90]; simp [s_90, aILoad, aRLoad, aLLoad, aIStore, aRStore, aPush, aBin, aBinL, aShL, aUn, aIf, aIc, aGet, aPut, aIald, aBald, aAald, aIast, aBast, aAast, aAlen, aCopy, aCallV, aCallC, aCallI, aRet, aCat, aMax, aMin, aDiv, aRem, aI2l, aL2i, aNul, aSwS, aSw, aInc, aDup, aDup2, aPop1, aIret, aAret, aVret, aLen, aFk, aFT, Value.category, c_sh, k_isIn, hn, rf_1]
    · rw [e_194]; simp [s_194, aILoad, aRLoad, aLLoad, aIStore, aRStore, aPush, aBin, aBinL, aShL, aUn, aIf, aIc, aGet, aPut, aIald, aBald, aAald, aIast, aBast, aAast, aAlen, aCopy, aCallV, aCallC, aCallI, aRet, aCat, aMax, aMin, aDiv, aRem, aI2l, aL2i, aNul, aSwS, aSw, aInc, aDup, aDup2, aPop1, aIret, aAret, aVret, aLen, aFk, aFT, Value.category, m_sh, r_in, hn, re_1]
end PAIR15
