/-! the calls in pairs: round -/
theorem cnt_all {g : Nat → Bool} : ∀ {P : Nat}, cnt g P = P → ∀ j, j < P → g j = true
  | 0, _, j, hj => by omega
  | P + 1, h, j, hj => by
    have h1 := cnt_le g P
    rw [cnt] at h
    by_cases hg : g P = true
    · rw [if_pos hg] at h
      by_cases e : j = P
      · subst e; exact hg
      · exact cnt_all (P := P) (by omega) j (by omega)
    · rw [if_neg hg] at h; omega
theorem cnt_set {g g' : Nat → Bool} {q : Nat} (hq : g q = false) (hq' : g' q = true) (he : ∀ j, j ≠ q → g' j = g j) : ∀ {P : Nat}, q < P → cnt g' P = cnt g P + 1
  | 0, h => by omega
  | P + 1, h => by
    rw [cnt, cnt]
    by_cases e : q = P
    · subst e
      rw [hq, hq', cnt_congr (f := g') (g := g) (fun k hk => he k (by omega))]; rfl
    · rw [cnt_set hq hq' he (show q < P by omega), he P (by omega)]; omega
def sVis (R : Nat → Int32) (j : Nat) : Bool := decide (¬ R j = -1)
def sRnd (σ : Nat → Int32) : Nat → Nat → (Nat → Int32) → Int32 → Nat × (Nat → Int32) × Int32
  | 0, n, R, a => (n, R, a)
  | k + 1, n, R, a => if a = -1 ∨ ¬ R a.toNatClampNeg = -1 then (n, R, a) else sRnd σ k (n + 1) (upd R a.toNatClampNeg (nI n)) (sRobs σ a.toNatClampNeg)
theorem nI_m1 {n : Nat} (h : n < 2 ^ 31) : ¬ nI n = -1 := fun z => absurd (z ▸ nI_pos' (n := n) h) (by decide)
theorem sRobs_c {σ : Nat → Int32} {P T p : Nat} (hw : wfS σ P T) (h8 : σ 8 = nI T) (hT : T ≤ 10) : sRobs σ p = -1 ∨ ∃ q, q < P ∧ sRobs σ p = nI q := by
  unfold sRobs
  rcases sWant_c (σ := σ) (p := p) (s := 0) h8 hT with hc | ⟨t, ht, hc⟩
  · rw [if_pos hc]; exact Or.inl rfl
  · rw [hc, if_neg (nI_m1 (by omega)), toNat_nI (by omega)]
    split
    · exact Or.inl rfl
    · exact Or.inr (hw.2.1 t ht).1
section PAIR18
variable {d : Nat} {I : Nat → Nat → Int32} {x y : Option Nat}
theorem r_robs {p T : Nat} (hp : p < 8) (hT : T ≤ 10) (h8 : I 114 8 = nI T) (hok : okT (I 114)) : ∃ I1, aCall aMt (d + 9) 189 [.ref 113, .int (nI p)] (HH I x y) = some (some (.int (sRobs (I 114) p)), HH I1 x y) ∧ RF I I1 := by
  obtain ⟨I1, h1, h2⟩ := r_wanted (d := d) (x := x) (y := y) (I := I) (s := 0) hp hT h8 hok
  refine ⟨I1, ?_, h2⟩
  rw [e_189]
  unfold sRobs
  rcases sWant_c (σ := I 114) (p := p) (s := 0) h8 hT with hc | ⟨t, ht, hc⟩
  · rw [hc] at h1
    simp [s_189, aILoad, aRLoad, aLLoad, aIStore, aRStore, aPush, aBin, aBinL, aShL, aUn, aIf, aIc, aGet, aPut, aIald, aBald, aAald, aIast, aBast, aAast, aAlen, aCopy, aCallV, aCallC, aCallI, aRet, aCat, aMax, aMin, aDiv, aRem, aI2l, aL2i, aNul, aSwS, aSw, aInc, aDup, aDup2, aPop1, aIret, aAret, aVret, aLen, aFk, aFT, Value.category, m_sh, m_p, h1, hc]
  · have hn := nI_m1 (n := t) (by omega)
    rw [hc] at h1
    have e := h2.a
    have a0 : 50 + 7 * t + 0 = 50 + 7 * t := rfl
    by_cases ho : I 114 (50 + 7 * t) = nI p
    · simp [s_189, aILoad, aRLoad, aLLoad, aIStore, aRStore, aPush, aBin, aBinL, aShL, aUn, aIf, aIc, aGet, aPut, aIald, aBald, aAald, aIast, aBast, aAast, aAlen, aCopy, aCallV, aCallC, aCallI, aRet, aCat, aMax, aMin, aDiv, aRem, aI2l, aL2i, aNul, aSwS, aSw, aInc, aDup, aDup2, aPop1, aIret, aAret, aVret, aLen, aFk, aFT, Value.category, m_sh, m_p, h1, hc, hn, r_of (show t < 10 by omega), e, ho, toNat_nI (show t < 2 ^ 31 by omega)]
    · simp [s_189, aILoad, aRLoad, aLLoad, aIStore, aRStore, aPush, aBin, aBinL, aShL, aUn, aIf, aIc, aGet, aPut, aIald, aBald, aAald, aIast, aBast, aAast, aAlen, aCopy, aCallV, aCallC, aCallI, aRet, aCat, aMax, aMin, aDiv, aRem, aI2l, aL2i, aNul, aSwS, aSw, aInc, aDup, aDup2, aPop1, aIret, aAret, aVret, aLen, aFk, aFT, Value.category, m_sh, m_p, h1, hc, hn, r_of (show t < 10 by omega), e, ho, toNat_nI (show t < 2 ^ 31 by omega)]
theorem k_rnd_loop {f P T : Nat} {p0 w : Int32} {σ : Nat → Int32} {I0 : Nat → Nat → Int32} (h1 : f = 1) (hf : isF f) (hw : wfS σ P T) (h8 : σ 8 = nI T) (hP : P ≤ 8) (hT : T ≤ 10) : ∀ k n (R : Nat → Int32) (a : Int32) (I : Nat → Nat → Int32), n + k = P → cnt (sVis R) P = n → (a = -1 ∨ ∃ q, q < P ∧ a = nI q) → (∀ j, j < 8 → I 104 j = R j) → relF f I σ P T → (∀ r, r ≠ 7 → r ≠ 11 → r ≠ 104 → I r = I0 r) →
    ∃ I1 n' R' a', aGo (aCall aMt (d + 6)) none cd_87 0 40 [some (.ref 0), some (.int p0), some (.int w), some (.int a), some (.int (nI n))] [] (HH I x y) = aGo (aCall aMt (d + 6)) none cd_87 0 90 [some (.ref 0), some (.int p0), some (.int w), some (.int a'), some (.int (nI n'))] [] (HH I1 x y) ∧ (n', R', a') = sRnd σ k n R a ∧ (a' = -1 ∨ ∃ q, q < P ∧ a' = nI q) ∧ (∀ j, j < 8 → I1 104 j = R' j) ∧ (∀ r, r ≠ 7 → r ≠ 11 → r ≠ 104 → I1 r = I0 r) := by
  have stop : ∀ n (R : Nat → Int32) (a : Int32) (I : Nat → Nat → Int32), (∀ j, j < 8 → I 104 j = R j) → (a = -1 ∨ ∃ q, q < P ∧ a = nI q) → (a = -1 ∨ ¬ R a.toNatClampNeg = -1) → aGo (aCall aMt (d + 6)) none cd_87 0 40 [some (.ref 0), some (.int p0), some (.int w), some (.int a), some (.int (nI n))] [] (HH I x y) = aGo (aCall aMt (d + 6)) none cd_87 0 90 [some (.ref 0), some (.int p0), some (.int w), some (.int a), some (.int (nI n))] [] (HH I x y) := by
    intro n R a I hR ha hs
    rw [s_87_40]
    by_cases c8 : (8 : Int32) ≤ nI n
    · simp [s_87, aILoad, aRLoad, aLLoad, aIStore, aRStore, aPush, aBin, aBinL, aShL, aUn, aIf, aIc, aGet, aPut, aIald, aBald, aAald, aIast, aBast, aAast, aAlen, aCopy, aCallV, aCallC, aCallI, aRet, aCat, aMax, aMin, aDiv, aRem, aI2l, aL2i, aNul, aSwS, aSw, aInc, aDup, aDup2, aPop1, aIret, aAret, aVret, aLen, aFk, aFT, Value.category, c_sh, c_q, c8]
    · rcases ha with rfl | ⟨q, hq, rfl⟩
      · simp [s_87, aILoad, aRLoad, aLLoad, aIStore, aRStore, aPush, aBin, aBinL, aShL, aUn, aIf, aIc, aGet, aPut, aIald, aBald, aAald, aIast, aBast, aAast, aAlen, aCopy, aCallV, aCallC, aCallI, aRet, aCat, aMax, aMin, aDiv, aRem, aI2l, aL2i, aNul, aSwS, aSw, aInc, aDup, aDup2, aPop1, aIret, aAret, aVret, aLen, aFk, aFT, Value.category, c_sh, c_q, c8, k_isIn]
      · have hs' := hs.resolve_left (nI_m1 (by omega))
        rw [toNat_nI (by omega)] at hs'
        have b : 0 ≤ nI q ∧ nI q ≤ 7 := ⟨nI_pos' (by omega), nI_le (b := 7) (by omega) (by omega)⟩
        simp [s_87, aILoad, aRLoad, aLLoad, aIStore, aRStore, aPush, aBin, aBinL, aShL, aUn, aIf, aIc, aGet, aPut, aIald, aBald, aAald, aIast, aBast, aAast, aAlen, aCopy, aCallV, aCallC, aCallI, aRet, aCat, aMax, aMin, aDiv, aRem, aI2l, aL2i, aNul, aSwS, aSw, aInc, aDup, aDup2, aPop1, aIret, aAret, aVret, aLen, aFk, aFT, Value.category, c_sh, c_q, c8, k_isIn, b, toNat_nI (show q < 2 ^ 31 by omega), nI_lt0 (show q < 2 ^ 31 by omega), show ¬ 8 ≤ q by omega, hR q (by omega), hs']
  intro k
  induction k with
  | zero =>
    intro n R a I hn hc ha hR hr hk
    refine ⟨I, n, R, a, stop n R a I hR ha ?_, rfl, ha, hR, hk⟩
    rcases ha with rfl | ⟨q, hq, rfl⟩
    · exact Or.inl rfl
    · have := cnt_all (show cnt (sVis R) P = P by omega) q hq
      rw [toNat_nI (by omega)]
      exact Or.inr (by simpa [sVis] using this)
  | succ k ih =>
    intro n R a I hn hc ha hR hr hk
    by_cases hs : a = -1 ∨ ¬ R a.toNatClampNeg = -1
    · exact ⟨I, n, R, a, stop n R a I hR ha hs, by rw [sRnd, if_pos hs], ha, hR, hk⟩
    · have hs0 := hs
      obtain ⟨hs1, hs2⟩ := not_or.mp hs
      obtain ⟨q, hq, rfl⟩ := ha.resolve_left hs1
      rw [toNat_nI (show q < 2 ^ 31 by omega)] at hs2
      have hs2 : R q = -1 := Classical.byContradiction hs2
      have b : 0 ≤ nI q ∧ nI q ≤ 7 := ⟨nI_pos' (by omega), nI_le (b := 7) (by omega) (by omega)⟩
      have g1 : ¬ (8 : Int32) ≤ nI n := nI_ge (b := 8) (by omega) (by omega)
      have hr' : relF f (aUpd I 104 q (nI n)) σ P T := hr.rows hP hT fun r _ _ => aUpd_ne (by omega)
      obtain ⟨I2, p1, p2⟩ := k_robbed (d := d) (x := x) (y := y) hf hr' hw.ok hw.th hq
      have hr2 := hr'.kf p2
      have i104 : I2 104 = upd (I 104) q (nI n) := by rw [p2 104 (by omega) (by omega), aUpd_row]
      obtain ⟨I1, n', R', a', r1, r2, r3⟩ := ih (n + 1) (upd R q (nI n)) (sRobs σ q) I2 (by omega) (by
        rw [cnt_set (g := sVis R) (q := q) (by simp [sVis, hs2]) (by simpa [sVis, upd_eq] using nI_m1 (n := n) (by omega)) (fun j hj => by simp only [sVis, upd_ne hj]) hq, hc]) (sRobs_c hw h8 hT) (fun j hj => by
        rw [i104]
        by_cases e : j = q
        · subst e; rw [upd_eq, upd_eq]
        · rw [upd_ne e, upd_ne e]; exact hR j hj) hr2 (fun r a b c => by rw [p2 r (by omega) (by omega), aUpd_ne c]; exact hk r a b c)
      refine ⟨I1, n', R', a', ?_, by rw [sRnd, if_neg hs0, toNat_nI (show q < 2 ^ 31 by omega)]; exact r2, r3⟩
      rw [s_87_40, ← r1]
      simp [s_87, aILoad, aRLoad, aLLoad, aIStore, aRStore, aPush, aBin, aBinL, aShL, aUn, aIf, aIc, aGet, aPut, aIald, aBald, aAald, aIast, aBast, aAast, aAlen, aCopy, aCallV, aCallC, aCallI, aRet, aCat, aMax, aMin, aDiv, aRem, aI2l, aL2i, aNul, aSwS, aSw, aInc, aDup, aDup2, aPop1, aIret, aAret, aVret, aLen, aFk, aFT, Value.category, c_sh, c_q, c_f h1, f_sh hf, g1, k_isIn, b, toNat_nI (show q < 2 ^ 31 by omega), nI_lt0 (show q < 2 ^ 31 by omega), show ¬ 8 ≤ q by omega, hR q (by omega), hs2, p1, nI_1]
theorem r_rnd_loop {P T : Nat} {p0 w : Int32} {σ : Nat → Int32} {I0 : Nat → Nat → Int32} (hw : wfS σ P T) (h8 : σ 8 = nI T) (hP : P ≤ 8) (hT : T ≤ 10) : ∀ k n (R : Nat → Int32) (a : Int32) (I : Nat → Nat → Int32), n + k = P → cnt (sVis R) P = n → (a = -1 ∨ ∃ q, q < P ∧ a = nI q) → (∀ j, j < 8 → I 122 j = R j) → I 114 = σ → (∀ r, r ≠ 119 → r ≠ 120 → r ≠ 122 → I r = I0 r) →
    ∃ I1 n' R' a', aGo (aCall aMt (d + 9)) none cd_190 0 49 [some (.ref 113), some (.int p0), some (.int w), some (.int (nI n)), some (.int a)] [] (HH I x y) = aGo (aCall aMt (d + 9)) none cd_190 0 88 [some (.ref 113), some (.int p0), some (.int w), some (.int (nI n')), some (.int a')] [] (HH I1 x y) ∧ (n', R', a') = sRnd σ k n R a ∧ (∀ j, j < 8 → I1 122 j = R' j) ∧ (∀ r, r ≠ 119 → r ≠ 120 → r ≠ 122 → I1 r = I0 r) := by
  have stop : ∀ n (R : Nat → Int32) (a : Int32) (I : Nat → Nat → Int32), (∀ j, j < 8 → I 122 j = R j) → (a = -1 ∨ ∃ q, q < P ∧ a = nI q) → (a = -1 ∨ ¬ R a.toNatClampNeg = -1) → aGo (aCall aMt (d + 9)) none cd_190 0 49 [some (.ref 113), some (.int p0), some (.int w), some (.int (nI n)), some (.int a)] [] (HH I x y) = aGo (aCall aMt (d + 9)) none cd_190 0 88 [some (.ref 113), some (.int p0), some (.int w), some (.int (nI n)), some (.int a)] [] (HH I x y) := by
    intro n R a I hR ha hs
    rw [s_190_49]
    rcases ha with rfl | ⟨q, hq, rfl⟩
    · simp [s_190, aILoad, aRLoad, aLLoad, aIStore, aRStore, aPush, aBin, aBinL, aShL, aUn, aIf, aIc, aGet, aPut, aIald, aBald, aAald, aIast, aBast, aAast, aAlen, aCopy, aCallV, aCallC, aCallI, aRet, aCat, aMax, aMin, aDiv, aRem, aI2l, aL2i, aNul, aSwS, aSw, aInc, aDup, aDup2, aPop1, aIret, aAret, aVret, aLen, aFk, aFT, Value.category, m_sh, m_p]
    · have hm := nI_m1 (n := q) (by omega)
      have hs' := hs.resolve_left hm
      rw [toNat_nI (by omega)] at hs'
      simp [s_190, aILoad, aRLoad, aLLoad, aIStore, aRStore, aPush, aBin, aBinL, aShL, aUn, aIf, aIc, aGet, aPut, aIald, aBald, aAald, aIast, aBast, aAast, aAlen, aCopy, aCallV, aCallC, aCallI, aRet, aCat, aMax, aMin, aDiv, aRem, aI2l, aL2i, aNul, aSwS, aSw, aInc, aDup, aDup2, aPop1, aIret, aAret, aVret, aLen, aFk, aFT, Value.category, m_sh, m_p, hm, toNat_nI (show q < 2 ^ 31 by omega), nI_lt0 (show q < 2 ^ 31 by omega), show ¬ 8 ≤ q by omega, hR q (by omega), hs']
  intro k
  induction k with
  | zero =>
    intro n R a I hn hc ha hR hr hk
    refine ⟨I, n, R, a, stop n R a I hR ha ?_, rfl, hR, hk⟩
    rcases ha with rfl | ⟨q, hq, rfl⟩
    · exact Or.inl rfl
    · have := cnt_all (show cnt (sVis R) P = P by omega) q hq
      rw [toNat_nI (by omega)]
      exact Or.inr (by simpa [sVis] using this)
  | succ k ih =>
    intro n R a I hn hc ha hR hr hk
    by_cases hs : a = -1 ∨ ¬ R a.toNatClampNeg = -1
    · exact ⟨I, n, R, a, stop n R a I hR ha hs, by rw [sRnd, if_pos hs], hR, hk⟩
    · have hs0 := hs
      obtain ⟨hs1, hs2⟩ := not_or.mp hs
      obtain ⟨q, hq, rfl⟩ := ha.resolve_left hs1
      rw [toNat_nI (show q < 2 ^ 31 by omega)] at hs2
      have hs2 : R q = -1 := Classical.byContradiction hs2
      have e114 : aUpd I 122 q (nI n) 114 = σ := by rw [aUpd_ne (by omega)]; exact hr
      obtain ⟨I2, p1, p2⟩ := r_robs (d := d) (x := x) (y := y) (I := aUpd I 122 q (nI n)) (p := q) (by omega) hT (by rw [e114]; exact h8) (by rw [e114]; exact hw.ok)
      rw [e114] at p1
      have i122 : I2 122 = upd (I 122) q (nI n) := by rw [p2 122 (by omega) (by omega), aUpd_row]
      obtain ⟨I1, n', R', a', r1, r2, r3⟩ := ih (n + 1) (upd R q (nI n)) (sRobs σ q) I2 (by omega) (by
        rw [cnt_set (g := sVis R) (q := q) (by simp [sVis, hs2]) (by simpa [sVis, upd_eq] using nI_m1 (n := n) (by omega)) (fun j hj => by simp only [sVis, upd_ne hj]) hq, hc]) (sRobs_c hw h8 hT) (fun j hj => by
        rw [i122]
        by_cases e : j = q
        · subst e; rw [upd_eq, upd_eq]
        · rw [upd_ne e, upd_ne e]; exact hR j hj) (by rw [p2.a]; exact e114) (fun r a b c => by rw [p2 r a b, aUpd_ne c]; exact hk r a b c)
      refine ⟨I1, n', R', a', ?_, by rw [sRnd, if_neg hs0, toNat_nI (show q < 2 ^ 31 by omega)]; exact r2, r3⟩
      rw [s_190_49, ← r1]
      simp [s_190, aILoad, aRLoad, aLLoad, aIStore, aRStore, aPush, aBin, aBinL, aShL, aUn, aIf, aIc, aGet, aPut, aIald, aBald, aAald, aIast, aBast, aAast, aAlen, aCopy, aCallV, aCallC, aCallI, aRet, aCat, aMax, aMin, aDiv, aRem, aI2l, aL2i, aNul, aSwS, aSw, aInc, aDup, aDup2, aPop1, aIret, aAret, aVret, aLen, aFk, aFT, Value.category, m_sh, m_p, hs1, toNat_nI (show q < 2 ^ 31 by omega), nI_lt0 (show q < 2 ^ 31 by omega), show ¬ 8 ≤ q by omega, hR q (by omega), hs2, p1, nI_1]
theorem r_plc_loop {p0 w : Int32} : ∀ k i, i + k = 8 →
    aGo (aCall aMt d) none cd_190 0 25 [some (.ref 113), some (.int p0), some (.int w), some (.int (nI i)), none] [] (HH (aFil I 122 0 i (-1)) x y) = aGo (aCall aMt d) none cd_190 0 49 [some (.ref 113), some (.int p0), some (.int w), some (.int 0), some (.int p0)] [] (HH (aFil I 122 0 8 (-1)) x y) := by
  intro k
  induction k with
  | zero =>
    intro i hi
    obtain rfl : i = 8 := by omega
    have g1 : (8 : Int32) ≤ nI 8 := by decide
    rw [s_190_25]
    simp [s_190, aILoad, aRLoad, aLLoad, aIStore, aRStore, aPush, aBin, aBinL, aShL, aUn, aIf, aIc, aGet, aPut, aIald, aBald, aAald, aIast, aBast, aAast, aAlen, aCopy, aCallV, aCallC, aCallI, aRet, aCat, aMax, aMin, aDiv, aRem, aI2l, aL2i, aNul, aSwS, aSw, aInc, aDup, aDup2, aPop1, aIret, aAret, aVret, aLen, aFk, aFT, Value.category, g1]
  | succ k ih =>
    intro i hi
    have g1 : ¬ (8 : Int32) ≤ nI i := nI_ge (b := 8) (by omega) (by omega)
    have g := ih (i + 1) (by omega)
    rw [← aFil_s (Nat.zero_le i)] at g
    rw [s_190_25, ← g]
    simp [s_190, aILoad, aRLoad, aLLoad, aIStore, aRStore, aPush, aBin, aBinL, aShL, aUn, aIf, aIc, aGet, aPut, aIald, aBald, aAald, aIast, aBast, aAast, aAlen, aCopy, aCallV, aCallC, aCallI, aRet, aCat, aMax, aMin, aDiv, aRem, aI2l, aL2i, aNul, aSwS, aSw, aInc, aDup, aDup2, aPop1, aIret, aAret, aVret, aLen, aFk, aFT, Value.category, m_sh, m_p, g1, toNat_nI (show i < 2 ^ 31 by omega), nI_lt0 (show i < 2 ^ 31 by omega), show ¬ 8 ≤ i by omega, nI_1]
theorem pair_round (v w : Int32) : Pair 87 190 [.int v, .int w] := by
  intro d I x y h
  obtain ⟨f, P, T, h1, hf, hA⟩ := h.f
  have hP := hA.1.1
  have e7 := hA.1.fi.2.2.1
  have e8 := hA.1.fi.2.2.2.1
  by_cases hp : 0 ≤ v ∧ v ≤ nI P - 1
  · obtain ⟨p, hpP, rfl⟩ := (isIx (by omega)).mp hp
    have pa := k_personAt (d := d + 17) (x := x) (y := y) hf hA.1 hpP
    by_cases hw : 0 ≤ w ∧ w ≤ 1
    · have kf := k_fill (d := d + 18) (I := I) (x := x) (y := y) (a := 104) (N := 8) (v := -1) rfl (by omega)
      have hr0 : relF f (aFil I 104 0 8 (-1)) (I 114) P T := hA.1.rows hP.1 hP.2 fun r _ _ => aFil_ne (by omega)
      have c0 : cnt (sVis fun _ => (-1 : Int32)) P = 0 := by
        have : ∀ n, cnt (sVis fun _ => (-1 : Int32)) n = 0 := fun n => by
          induction n with
          | zero => rfl
          | succ n ih => rw [cnt, ih]; rfl
        exact this P
      obtain ⟨I1, n', R', a', k1, k2, k3, k4, k5⟩ := k_rnd_loop (d := d + 13) (x := x) (y := y) (P := P) (T := T) (p0 := nI p) (w := w) (σ := I 114) (I0 := aFil I 104 0 8 (-1)) h1 hf hA.2.2 e8 hP.1 hP.2 P 0 (fun _ => -1) (nI p) _ (by omega) c0 (Or.inr ⟨p, hpP, rfl⟩) (fun j hj => aFil_in (by omega) hj) hr0 (fun _ _ _ _ => rfl)
      have er : ∀ r, r ≠ 7 → r ≠ 11 → r ≠ 104 → I1 r = I r := fun r a b c => by rw [k5 r a b c, aFil_ne c]
      have r0 := r_plc_loop (d := d + 19) (I := I1) (x := x) (y := y) (p0 := nI p) (w := w) 8 0 (by omega)
      rw [aFil_0] at r0
      obtain ⟨I2, n2, R2, a2, r1, r2, r4, r5⟩ := r_rnd_loop (d := d + 10) (x := x) (y := y) (P := P) (T := T) (p0 := nI p) (w := w) (σ := I 114) (I0 := aFil I1 122 0 8 (-1)) hA.2.2 e8 hP.1 hP.2 P 0 (fun _ => -1) (nI p) _ (by omega) c0 (Or.inr ⟨p, hpP, rfl⟩) (fun j hj => aFil_in (by omega) hj) (by rw [aFil_ne (by omega)]; exact er 114 (by omega) (by omega) (by omega)) (fun _ _ _ _ => rfl)
      rw [← k2] at r2
      obtain ⟨rfl, r2'⟩ := Prod.mk.inj r2
      obtain ⟨rfl, rfl⟩ := Prod.mk.inj r2'
      rw [nI_lit0] at k1 r1 r0
      rw [r1] at r0
      have hI : ∀ r, r ≠ 119 → r ≠ 120 → r ≠ 122 → I2 r = I1 r := fun r a b c => by rw [r5 r a b c, aFil_ne c]
      have g2 : ∀ r, r < 113 → r ≠ 7 → r ≠ 11 → (r < 63 ∨ 94 ≤ r) → r ≠ 104 → I2 r = I r := fun r a b c e g => by rw [hI r (by omega) (by omega) (by omega), er r b c g]
      have g3 : kF 63 I2 := h.2.2.1.rows fun r a b => by rw [hI r (by omega) (by omega) (by omega), er r (by omega) (by omega) (by omega)]
      have g4 : ∀ r, 113 ≤ r → r < 116 ∨ r = 117 ∨ 122 < r → I2 r = I r := fun r a b => by rw [hI r (by omega) (by omega) (by omega), er r (by omega) (by omega) (by omega)]
      have e7' : I1 114 7 = nI P := by rw [er 114 (by omega) (by omega) (by omega)]; exact e7
      rcases k3 with rfl | ⟨q, hq, rfl⟩
      · rcases in_01 hw with rfl | rfl
        · refine Pair.gen (I1 := I1) (v := nI n2 - 1) h ?_ ?_ g2 g3 g4
          · rw [e_87]; simp [s_87, aILoad, aRLoad, aLLoad, aIStore, aRStore, aPush, aBin, aBinL, aShL, aUn, aIf, aIc, aGet, aPut, aIald, aBald, aAald, aIast, aBast, aAast, aAlen, aCopy, aCallV, aCallC, aCallI, aRet, aCat, aMax, aMin, aDiv, aRem, aI2l, aL2i, aNul, aSwS, aSw, aInc, aDup, aDup2, aPop1, aIret, aAret, aVret, aLen, aFk, aFT, Value.category, c_sh, c_q, c_f h1, f_sh hf, pa, k_isIn, kf, k1]
          · rw [e_190]; simp [s_190, aILoad, aRLoad, aLLoad, aIStore, aRStore, aPush, aBin, aBinL, aShL, aUn, aIf, aIc, aGet, aPut, aIald, aBald, aAald, aIast, aBast, aAast, aAlen, aCopy, aCallV, aCallC, aCallI, aRet, aCat, aMax, aMin, aDiv, aRem, aI2l, aL2i, aNul, aSwS, aSw, aInc, aDup, aDup2, aPop1, aIret, aAret, aVret, aLen, aFk, aFT, Value.category, m_sh, m_p, r_isPerson, e7', hp, r_in, r0]
        · refine Pair.gen (I1 := I1) (v := 0) h ?_ ?_ g2 g3 g4
          · rw [e_87]; simp [s_87, aILoad, aRLoad, aLLoad, aIStore, aRStore, aPush, aBin, aBinL, aShL, aUn, aIf, aIc, aGet, aPut, aIald, aBald, aAald, aIast, aBast, aAast, aAlen, aCopy, aCallV, aCallC, aCallI, aRet, aCat, aMax, aMin, aDiv, aRem, aI2l, aL2i, aNul, aSwS, aSw, aInc, aDup, aDup2, aPop1, aIret, aAret, aVret, aLen, aFk, aFT, Value.category, c_sh, c_q, c_f h1, f_sh hf, pa, k_isIn, kf, k1]
          · rw [e_190]; simp [s_190, aILoad, aRLoad, aLLoad, aIStore, aRStore, aPush, aBin, aBinL, aShL, aUn, aIf, aIc, aGet, aPut, aIald, aBald, aAald, aIast, aBast, aAast, aAlen, aCopy, aCallV, aCallC, aCallI, aRet, aCat, aMax, aMin, aDiv, aRem, aI2l, aL2i, aNul, aSwS, aSw, aInc, aDup, aDup2, aPop1, aIret, aAret, aVret, aLen, aFk, aFT, Value.category, m_sh, m_p, r_isPerson, e7', hp, r_in, r0]
      · have b : 0 ≤ nI q ∧ nI q ≤ 7 := ⟨nI_pos' (by omega), nI_le (b := 7) (by omega) (by omega)⟩
        have hm := nI_m1 (n := q) (by omega)
        have tq := toNat_nI (show q < 2 ^ 31 by omega)
        have nq := nI_lt0 (show q < 2 ^ 31 by omega)
        have lq : ¬ 8 ≤ q := by omega
        have v1 := k4 q (by omega)
        have v2 := r4 q (by omega)
        rcases in_01 hw with rfl | rfl
        · refine Pair.gen (I1 := I1) (v := R2 q) h ?_ ?_ g2 g3 g4
          · rw [e_87]; simp [s_87, aILoad, aRLoad, aLLoad, aIStore, aRStore, aPush, aBin, aBinL, aShL, aUn, aIf, aIc, aGet, aPut, aIald, aBald, aAald, aIast, aBast, aAast, aAlen, aCopy, aCallV, aCallC, aCallI, aRet, aCat, aMax, aMin, aDiv, aRem, aI2l, aL2i, aNul, aSwS, aSw, aInc, aDup, aDup2, aPop1, aIret, aAret, aVret, aLen, aFk, aFT, Value.category, c_sh, c_q, c_f h1, f_sh hf, pa, k_isIn, kf, k1, b, tq, nq, lq, v1]
          · rw [e_190]; simp [s_190, aILoad, aRLoad, aLLoad, aIStore, aRStore, aPush, aBin, aBinL, aShL, aUn, aIf, aIc, aGet, aPut, aIald, aBald, aAald, aIast, aBast, aAast, aAlen, aCopy, aCallV, aCallC, aCallI, aRet, aCat, aMax, aMin, aDiv, aRem, aI2l, aL2i, aNul, aSwS, aSw, aInc, aDup, aDup2, aPop1, aIret, aAret, aVret, aLen, aFk, aFT, Value.category, m_sh, m_p, r_isPerson, e7', hp, r_in, r0, hm, tq, nq, lq, v2]
        · refine Pair.gen (I1 := I1) (v := nI n2 - R2 q) h ?_ ?_ g2 g3 g4
          · rw [e_87]; simp [s_87, aILoad, aRLoad, aLLoad, aIStore, aRStore, aPush, aBin, aBinL, aShL, aUn, aIf, aIc, aGet, aPut, aIald, aBald, aAald, aIast, aBast, aAast, aAlen, aCopy, aCallV, aCallC, aCallI, aRet, aCat, aMax, aMin, aDiv, aRem, aI2l, aL2i, aNul, aSwS, aSw, aInc, aDup, aDup2, aPop1, aIret, aAret, aVret, aLen, aFk, aFT, Value.category, c_sh, c_q, c_f h1, f_sh hf, pa, k_isIn, kf, k1, b, tq, nq, lq, v1]
          · rw [e_190]; simp [s_190, aILoad, aRLoad, aLLoad, aIStore, aRStore, aPush, aBin, aBinL, aShL, aUn, aIf, aIc, aGet, aPut, aIald, aBald, aAald, aIast, aBast, aAast, aAlen, aCopy, aCallV, aCallC, aCallI, aRet, aCat, aMax, aMin, aDiv, aRem, aI2l, aL2i, aNul, aSwS, aSw, aInc, aDup, aDup2, aPop1, aIret, aAret, aVret, aLen, aFk, aFT, Value.category, m_sh, m_p, r_isPerson, e7', hp, r_in, r0, hm, tq, nq, lq, v2]
    · refine Pair.ref 1 (-1000000001) h ?_ (fun I' hI => ?_)
      · rw [e_87]; simp [s_87, aILoad, aRLoad, aLLoad, aIStore, aRStore, aPush, aBin, aBinL, aShL, aUn, aIf, aIc, aGet, aPut, aIald, aBald, aAald, aIast, aBast, aAast, aAlen, aCopy, aCallV, aCallC, aCallI, aRet, aCat, aMax, aMin, aDiv, aRem, aI2l, aL2i, aNul, aSwS, aSw, aInc, aDup, aDup2, aPop1, aIret, aAret, aVret, aLen, aFk, aFT, Value.category, c_sh, c_q, c_f h1, f_sh hf, pa, k_isIn, hw, rf_1]
      · have e7' : I' 114 7 = nI P := by rw [hI 114 (by decide)]; exact e7
        rw [e_190]; simp [s_190, aILoad, aRLoad, aLLoad, aIStore, aRStore, aPush, aBin, aBinL, aShL, aUn, aIf, aIc, aGet, aPut, aIald, aBald, aAald, aIast, aBast, aAast, aAlen, aCopy, aCallV, aCallC, aCallI, aRet, aCat, aMax, aMin, aDiv, aRem, aI2l, aL2i, aNul, aSwS, aSw, aInc, aDup, aDup2, aPop1, aIret, aAret, aVret, aLen, aFk, aFT, Value.category, m_sh, m_p, r_isPerson, e7', hp, r_in, hw, re_1]
  · have pa := k_personNo (d := d + 17) (x := x) (y := y) hf hA.1 hp
    refine Pair.ref 1 (-1000000001) h ?_ (fun I' hI => ?_)
    · rw [e_87]; simp [s_87, aILoad, aRLoad, aLLoad, aIStore, aRStore, aPush, aBin, aBinL, aShL, aUn, aIf, aIc, aGet, aPut, aIald, aBald, aAald, aIast, aBast, aAast, aAlen, aCopy, aCallV, aCallC, aCallI, aRet, aCat, aMax, aMin, aDiv, aRem, aI2l, aL2i, aNul, aSwS, aSw, aInc, aDup, aDup2, aPop1, aIret, aAret, aVret, aLen, aFk, aFT, Value.category, c_sh, c_q, c_f h1, f_sh hf, pa, rf_1]
    · have e7' : I' 114 7 = nI P := by rw [hI 114 (by decide)]; exact e7
      rw [e_190]; simp [s_190, aILoad, aRLoad, aLLoad, aIStore, aRStore, aPush, aBin, aBinL, aShL, aUn, aIf, aIc, aGet, aPut, aIald, aBald, aAald, aIast, aBast, aAast, aAlen, aCopy, aCallV, aCallC, aCallI, aRet, aCat, aMax, aMin, aDiv, aRem, aI2l, aL2i, aNul, aSwS, aSw, aInc, aDup, aDup2, aPop1, aIret, aAret, aVret, aLen, aFk, aFT, Value.category, m_sh, m_p, r_isPerson, e7', hp, re_1]
end PAIR18
