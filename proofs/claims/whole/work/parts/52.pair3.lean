/-! the calls in pairs: personIs, become, feel -/
theorem upd_comm {f : Nat → Int32} {j k : Nat} {a b : Int32} (h : j ≠ k) : upd (upd f j a) k b = upd (upd f k b) j a := by
  funext i; unfold upd; by_cases e : i = j
  · subst e; simp [h]
  · simp [e]
theorem in_01 {w : Int32} (h : 0 ≤ w ∧ w ≤ 1) : w = 0 ∨ w = 1 := by
  obtain ⟨n, _, hn, rfl⟩ := (isIn' (v := w) (a := 0) (b := 1) (by omega) (by omega)).mp h
  have : n = 0 ∨ n = 1 := by omega
  rcases this with rfl | rfl <;> decide
theorem in_02 {w : Int32} (h : 0 ≤ w ∧ w ≤ 2) : w = 0 ∨ w = 1 ∨ w = 2 := by
  obtain ⟨n, _, hn, rfl⟩ := (isIn' (v := w) (a := 0) (b := 2) (by omega) (by omega)).mp h
  have : n = 0 ∨ n = 1 ∨ n = 2 := by omega
  rcases this with rfl | rfl | rfl <;> decide
theorem in_03 {w : Int32} (h : 0 ≤ w ∧ w ≤ 3) : w = 0 ∨ w = 1 ∨ w = 2 ∨ w = 3 := by
  obtain ⟨n, _, hn, rfl⟩ := (isIn' (v := w) (a := 0) (b := 3) (by omega) (by omega)).mp h
  have : n = 0 ∨ n = 1 ∨ n = 2 ∨ n = 3 := by omega
  rcases this with rfl | rfl | rfl | rfl <;> decide
theorem in_05 {w : Int32} (h : 0 ≤ w ∧ w ≤ 5) : w = 0 ∨ w = 1 ∨ w = 2 ∨ w = 3 ∨ w = 4 ∨ w = 5 := by
  obtain ⟨n, _, hn, rfl⟩ := (isIn' (v := w) (a := 0) (b := 5) (by omega) (by omega)).mp h
  have : n = 0 ∨ n = 1 ∨ n = 2 ∨ n = 3 ∨ n = 4 ∨ n = 5 := by omega
  rcases this with rfl | rfl | rfl | rfl | rfl | rfl <;> decide
theorem in_07 {w : Int32} (h : 0 ≤ w ∧ w ≤ 7) : w = 0 ∨ w = 1 ∨ w = 2 ∨ w = 3 ∨ w = 4 ∨ w = 5 ∨ w = 6 ∨ w = 7 := by
  obtain ⟨n, _, hn, rfl⟩ := (isIn' (v := w) (a := 0) (b := 7) (by omega) (by omega)).mp h
  have : n = 0 ∨ n = 1 ∨ n = 2 ∨ n = 3 ∨ n = 4 ∨ n = 5 ∨ n = 6 ∨ n = 7 := by omega
  rcases this with rfl | rfl | rfl | rfl | rfl | rfl | rfl | rfl <;> decide
theorem relA.setP {f P T p j k : Nat} {I : Nat → Nat → Int32} {σ : Nat → Int32} {v : Int32} (h : relA f I σ P T) (hp : p < P) (hj : j < 5) (hk : k = 10 + 5 * p + j) (h0 : j = 0 → inR v 6) (h2 : j = 2 → inR v 99) (h3 : j = 3 → inR v 9) : relA f (aUpd I (f + 13 + p) (j + 1) v) (upd σ k v) P T := by
  have hP := h.1.1
  refine ⟨h.1.setP' hp hj hk, h.2.1.cg (by rw [aUpd_ne (by omega)]) (by rw [aUpd_ne (by omega)]) (aUpd_ne (by omega)) (aUpd_ne (by omega)) (fun i hi => upd_ne (by omega)), h.2.2.set (fun q hq z => h0 (by omega)) (fun q hq z => h2 (by omega)) (fun q hq z => h3 (by omega)) (fun q hq z => by omega) (fun q hq z => by omega) (fun q hq z => by omega) (fun q hq z => by omega) (by omega) (fun _ _ => by omega)⟩
theorem relA.setT {f P T t j k : Nat} {I : Nat → Nat → Int32} {σ : Nat → Int32} {v : Int32} (h : relA f I σ P T) (ht : t < T) (hj : j < 7) (hk : k = 50 + 7 * t + j) (h0 : j = 0 → ∃ q, q < P ∧ v = nI q) (h3 : j = 3 → inR v 9) (h5 : j = 5 → v = 0 ∨ v = 1 ∧ σ (56 + 7 * t) = -1) (h6 : j = 6 → σ (55 + 7 * t) = 0 ∨ v = -1) : relA f (aUpd I (f + 21 + t) j v) (upd σ k v) P T := by
  have hP := h.1.1
  refine ⟨h.1.setT' ht hj hk, h.2.1.cg (by rw [aUpd_ne (by omega)]) (by rw [aUpd_ne (by omega)]) (aUpd_ne (by omega)) (aUpd_ne (by omega)) (fun i hi => upd_ne (by omega)), h.2.2.set (fun q hq z => by omega) (fun q hq z => by omega) (fun q hq z => by omega) (fun q hq z => h0 (by omega)) (fun q hq z => h3 (by omega)) (fun q hq z => by
    obtain rfl : q = t := by omega
    exact h5 (by omega)) (fun q hq z => by
    obtain rfl : q = t := by omega
    exact h6 (by omega)) (by omega) (fun _ _ => by omega)⟩
theorem relA.setS {f P T k : Nat} {I : Nat → Nat → Int32} {σ : Nat → Int32} {v : Int32} (h : relA f I σ P T) (hk : k < 5) (h1 : 1 ≤ k → k < 4 → inR v 9999) : relA f (aUpd I f (10 + k) v) (upd σ k v) P T := by
  refine ⟨h.1.setS hk, h.2.1.cg (by rw [aUpd_row, upd_ne (by omega)]) (by rw [aUpd_row, upd_ne (by omega)]) (aUpd_ne (by omega)) (aUpd_ne (by omega)) (fun i hi => upd_ne (by omega)), h.2.2.set (fun q hq z => by omega) (fun q hq z => by omega) (fun q hq z => by omega) (fun q hq z => by omega) (fun q hq z => by omega) (fun q hq z => by omega) (fun q hq z => by omega) (by omega) (fun a b => h1 a b)⟩
section PAIR3
variable {d : Nat} {I : Nat → Nat → Int32} {x y : Option Nat}
/-- both answer v and change nothing -/
theorem Pair.id {cm rm : Nat} {args : List Value} {v : Int32} (h : Rel I) (hc : aCall aMt (d + 20) cm (.ref 0 :: args) (HH I x y) = some (some (.int v), HH I x y)) (hr : aCall aMt (d + 20) rm (.ref 113 :: args) (HH I x y) = some (some (.int v), HH I x y)) :
    ∃ v I1 x1 y1 I2, aCall aMt (d + 20) cm (.ref 0 :: args) (HH I x y) = some (some (.int v), HH I1 x1 y1) ∧ aCall aMt (d + 20) rm (.ref 113 :: args) (HH I1 x1 y1) = some (some (.int v), HH I2 x1 y1) ∧ Rel I2 := ⟨v, I, x, y, I, hc, hr, h⟩
theorem pair_personIs (v w : Int32) : Pair 65 166 [.int v, .int w] := by
  intro d I x y h
  obtain ⟨f, P, T, h1, hf, hA⟩ := h.f
  have hP := hA.1.1
  have e7 := hA.1.fi.2.2.1
  have e8 := hA.1.fi.2.2.2.1
  by_cases hp : 0 ≤ v ∧ v ≤ nI P - 1
  · obtain ⟨p, hpP, rfl⟩ := (isIx (by omega)).mp hp
    have pa := k_personAt (d := d + 17) (x := x) (y := y) hf hA.1 hpP
    have pe := hA.1.pe hpP
    have s1 := f_pe hf (show p < 8 by omega)
    have ri := fun w h0 h5 => r_its (d := d + 18) (I := I) (x := x) (y := y) (p := p) (w := w) (by omega) h0 h5
    by_cases hw : 0 ≤ w ∧ w ≤ 5
    · rcases in_05 hw with rfl | rfl | rfl | rfl | rfl | rfl
      · refine Pair.id (v := I 114 (10 + 5 * p)) h ?_ ?_
        · rw [e_65]; simp [s_65, aILoad, aRLoad, aLLoad, aIStore, aRStore, aPush, aBin, aBinL, aShL, aUn, aIf, aIc, aGet, aPut, aIald, aBald, aAald, aIast, aBast, aAast, aAlen, aCopy, aCallV, aCallC, aCallI, aRet, aCat, aMax, aMin, aDiv, aRem, aI2l, aL2i, aNul, aSwS, aSw, aInc, aDup, aDup2, aPop1, aIret, aAret, aVret, aLen, aFk, aFT, Value.category, c_sh, c_f h1, f_sh hf, pa, pe, s1]
        · rw [e_166]; simp [s_166, aILoad, aRLoad, aLLoad, aIStore, aRStore, aPush, aBin, aBinL, aShL, aUn, aIf, aIc, aGet, aPut, aIald, aBald, aAald, aIast, aBast, aAast, aAlen, aCopy, aCallV, aCallC, aCallI, aRet, aCat, aMax, aMin, aDiv, aRem, aI2l, aL2i, aNul, aSwS, aSw, aInc, aDup, aDup2, aPop1, aIret, aAret, aVret, aLen, aFk, aFT, Value.category, m_sh, m_p, r_isPerson, e7, hp, r_in, r_its (show p < 8 by omega)]
      · refine Pair.id (v := I 114 (11 + 5 * p)) h ?_ ?_
        · rw [e_65]; simp [s_65, aILoad, aRLoad, aLLoad, aIStore, aRStore, aPush, aBin, aBinL, aShL, aUn, aIf, aIc, aGet, aPut, aIald, aBald, aAald, aIast, aBast, aAast, aAlen, aCopy, aCallV, aCallC, aCallI, aRet, aCat, aMax, aMin, aDiv, aRem, aI2l, aL2i, aNul, aSwS, aSw, aInc, aDup, aDup2, aPop1, aIret, aAret, aVret, aLen, aFk, aFT, Value.category, c_sh, c_f h1, f_sh hf, pa, pe, s1]
        · rw [e_166]; simp [s_166, aILoad, aRLoad, aLLoad, aIStore, aRStore, aPush, aBin, aBinL, aShL, aUn, aIf, aIc, aGet, aPut, aIald, aBald, aAald, aIast, aBast, aAast, aAlen, aCopy, aCallV, aCallC, aCallI, aRet, aCat, aMax, aMin, aDiv, aRem, aI2l, aL2i, aNul, aSwS, aSw, aInc, aDup, aDup2, aPop1, aIret, aAret, aVret, aLen, aFk, aFT, Value.category, m_sh, m_p, r_isPerson, e7, hp, r_in, r_its (show p < 8 by omega), show 10 + 5 * p + 1 = 11 + 5 * p by omega]
      · refine Pair.id (v := I 114 (12 + 5 * p)) h ?_ ?_
        · rw [e_65]; simp [s_65, aILoad, aRLoad, aLLoad, aIStore, aRStore, aPush, aBin, aBinL, aShL, aUn, aIf, aIc, aGet, aPut, aIald, aBald, aAald, aIast, aBast, aAast, aAlen, aCopy, aCallV, aCallC, aCallI, aRet, aCat, aMax, aMin, aDiv, aRem, aI2l, aL2i, aNul, aSwS, aSw, aInc, aDup, aDup2, aPop1, aIret, aAret, aVret, aLen, aFk, aFT, Value.category, c_sh, c_f h1, f_sh hf, pa, pe, s1]
        · rw [e_166]; simp [s_166, aILoad, aRLoad, aLLoad, aIStore, aRStore, aPush, aBin, aBinL, aShL, aUn, aIf, aIc, aGet, aPut, aIald, aBald, aAald, aIast, aBast, aAast, aAlen, aCopy, aCallV, aCallC, aCallI, aRet, aCat, aMax, aMin, aDiv, aRem, aI2l, aL2i, aNul, aSwS, aSw, aInc, aDup, aDup2, aPop1, aIret, aAret, aVret, aLen, aFk, aFT, Value.category, m_sh, m_p, r_isPerson, e7, hp, r_in, r_its (show p < 8 by omega), show 10 + 5 * p + 2 = 12 + 5 * p by omega]
      · refine Pair.id (v := I 114 (13 + 5 * p)) h ?_ ?_
        · rw [e_65]; simp [s_65, aILoad, aRLoad, aLLoad, aIStore, aRStore, aPush, aBin, aBinL, aShL, aUn, aIf, aIc, aGet, aPut, aIald, aBald, aAald, aIast, aBast, aAast, aAlen, aCopy, aCallV, aCallC, aCallI, aRet, aCat, aMax, aMin, aDiv, aRem, aI2l, aL2i, aNul, aSwS, aSw, aInc, aDup, aDup2, aPop1, aIret, aAret, aVret, aLen, aFk, aFT, Value.category, c_sh, c_f h1, f_sh hf, pa, pe, s1]
        · rw [e_166]; simp [s_166, aILoad, aRLoad, aLLoad, aIStore, aRStore, aPush, aBin, aBinL, aShL, aUn, aIf, aIc, aGet, aPut, aIald, aBald, aAald, aIast, aBast, aAast, aAlen, aCopy, aCallV, aCallC, aCallI, aRet, aCat, aMax, aMin, aDiv, aRem, aI2l, aL2i, aNul, aSwS, aSw, aInc, aDup, aDup2, aPop1, aIret, aAret, aVret, aLen, aFk, aFT, Value.category, m_sh, m_p, r_isPerson, e7, hp, r_in, r_its (show p < 8 by omega), show 10 + 5 * p + 3 = 13 + 5 * p by omega]
      · refine Pair.id (v := I 114 (14 + 5 * p)) h ?_ ?_
        · rw [e_65]; simp [s_65, aILoad, aRLoad, aLLoad, aIStore, aRStore, aPush, aBin, aBinL, aShL, aUn, aIf, aIc, aGet, aPut, aIald, aBald, aAald, aIast, aBast, aAast, aAlen, aCopy, aCallV, aCallC, aCallI, aRet, aCat, aMax, aMin, aDiv, aRem, aI2l, aL2i, aNul, aSwS, aSw, aInc, aDup, aDup2, aPop1, aIret, aAret, aVret, aLen, aFk, aFT, Value.category, c_sh, c_f h1, f_sh hf, pa, pe, s1]
        · rw [e_166]; simp [s_166, aILoad, aRLoad, aLLoad, aIStore, aRStore, aPush, aBin, aBinL, aShL, aUn, aIf, aIc, aGet, aPut, aIald, aBald, aAald, aIast, aBast, aAast, aAlen, aCopy, aCallV, aCallC, aCallI, aRet, aCat, aMax, aMin, aDiv, aRem, aI2l, aL2i, aNul, aSwS, aSw, aInc, aDup, aDup2, aPop1, aIret, aAret, aVret, aLen, aFk, aFT, Value.category, m_sh, m_p, r_isPerson, e7, hp, r_in, r_its (show p < 8 by omega), show 10 + 5 * p + 4 = 14 + 5 * p by omega]
      · have ki := k_insideOf (d := d + 17) (x := x) (y := y) hf hA.1 hA.2.2.th hpP
        have ri := r_his (d := d + 16) (I := I) (x := x) (y := y) (p := p) hP.2 (by omega) e8
        refine Pair.id (v := nI (cnt (sHis (I 114) p) T)) h ?_ ?_
        · rw [e_65]; simp [s_65, aILoad, aRLoad, aLLoad, aIStore, aRStore, aPush, aBin, aBinL, aShL, aUn, aIf, aIc, aGet, aPut, aIald, aBald, aAald, aIast, aBast, aAast, aAlen, aCopy, aCallV, aCallC, aCallI, aRet, aCat, aMax, aMin, aDiv, aRem, aI2l, aL2i, aNul, aSwS, aSw, aInc, aDup, aDup2, aPop1, aIret, aAret, aVret, aLen, aFk, aFT, Value.category, c_sh, c_f h1, f_sh hf, pa, pe, s1, ki]
        · rw [e_166]; simp [s_166, aILoad, aRLoad, aLLoad, aIStore, aRStore, aPush, aBin, aBinL, aShL, aUn, aIf, aIc, aGet, aPut, aIald, aBald, aAald, aIast, aBast, aAast, aAlen, aCopy, aCallV, aCallC, aCallI, aRet, aCat, aMax, aMin, aDiv, aRem, aI2l, aL2i, aNul, aSwS, aSw, aInc, aDup, aDup2, aPop1, aIret, aAret, aVret, aLen, aFk, aFT, Value.category, m_sh, m_p, r_isPerson, e7, hp, r_in, ri]
    · have w0 : ¬ w = 0 := fun z => hw (by subst z; decide)
      have w1 : ¬ w = 1 := fun z => hw (by subst z; decide)
      have w2 : ¬ w = 2 := fun z => hw (by subst z; decide)
      have w3 : ¬ w = 3 := fun z => hw (by subst z; decide)
      have w4 : ¬ w = 4 := fun z => hw (by subst z; decide)
      have w5 : ¬ w = 5 := fun z => hw (by subst z; decide)
      refine Pair.ref 1 (-1000000001) h ?_ (fun I' hI => ?_)
      · rw [e_65]; simp [s_65, aILoad, aRLoad, aLLoad, aIStore, aRStore, aPush, aBin, aBinL, aShL, aUn, aIf, aIc, aGet, aPut, aIald, aBald, aAald, aIast, aBast, aAast, aAlen, aCopy, aCallV, aCallC, aCallI, aRet, aCat, aMax, aMin, aDiv, aRem, aI2l, aL2i, aNul, aSwS, aSw, aInc, aDup, aDup2, aPop1, aIret, aAret, aVret, aLen, aFk, aFT, Value.category, c_sh, c_f h1, f_sh hf, pa, s1, w0, w1, w2, w3, w4, w5, rf_1]
      · have e7' : I' 114 7 = nI P := by rw [hI 114 (by decide)]; exact e7
        rw [e_166]; simp [s_166, aILoad, aRLoad, aLLoad, aIStore, aRStore, aPush, aBin, aBinL, aShL, aUn, aIf, aIc, aGet, aPut, aIald, aBald, aAald, aIast, aBast, aAast, aAlen, aCopy, aCallV, aCallC, aCallI, aRet, aCat, aMax, aMin, aDiv, aRem, aI2l, aL2i, aNul, aSwS, aSw, aInc, aDup, aDup2, aPop1, aIret, aAret, aVret, aLen, aFk, aFT, Value.category, m_sh, m_p, r_isPerson, e7', hp, r_in, hw, re_1]
  · have pa := k_personNo (d := d + 17) (x := x) (y := y) hf hA.1 hp
    refine Pair.ref 1 (-1000000001) h ?_ (fun I' hI => ?_)
    · rw [e_65]; simp [s_65, aILoad, aRLoad, aLLoad, aIStore, aRStore, aPush, aBin, aBinL, aShL, aUn, aIf, aIc, aGet, aPut, aIald, aBald, aAald, aIast, aBast, aAast, aAlen, aCopy, aCallV, aCallC, aCallI, aRet, aCat, aMax, aMin, aDiv, aRem, aI2l, aL2i, aNul, aSwS, aSw, aInc, aDup, aDup2, aPop1, aIret, aAret, aVret, aLen, aFk, aFT, Value.category, c_sh, c_f h1, f_sh hf, pa, rf_1]
    · have e7' : I' 114 7 = nI P := by rw [hI 114 (by decide)]; exact e7
      rw [e_166]; simp [s_166, aILoad, aRLoad, aLLoad, aIStore, aRStore, aPush, aBin, aBinL, aShL, aUn, aIf, aIc, aGet, aPut, aIald, aBald, aAald, aIast, aBast, aAast, aAlen, aCopy, aCallV, aCallC, aCallI, aRet, aCat, aMax, aMin, aDiv, aRem, aI2l, aL2i, aNul, aSwS, aSw, aInc, aDup, aDup2, aPop1, aIret, aAret, aVret, aLen, aFk, aFT, Value.category, m_sh, m_p, r_isPerson, e7', hp, re_1]
theorem pair_become (v km : Int32) : Pair 66 167 [.int v, .int km] := by
  intro d I x y h
  obtain ⟨f, P, T, h1, hf, hA⟩ := h.f
  have hP := hA.1.1
  have e7 := hA.1.fi.2.2.1
  by_cases hp : 0 ≤ v ∧ v ≤ nI P - 1
  · obtain ⟨p, hpP, rfl⟩ := (isIx (by omega)).mp hp
    have pa := k_personAt (d := d + 17) (x := x) (y := y) hf hA.1 hpP
    have pe := hA.1.pe hpP
    have s1 := f_pe hf (show p < 8 by omega)
    by_cases hk : 0 ≤ km ∧ km ≤ 69
    · have kt : ∀ {d : Nat} {I : Nat → Nat → Int32}, aCall aMt (d + 1) 30 [.ref (f + 13 + p), .int km] (HH I x y) = some (none, HH (aUpd (aUpd I (f + 13 + p) 1 (km / 10)) (f + 13 + p) 2 (km - km / 10 * 10)) x y) := by
        intro d I
        rw [e_30]; simp [s_30, aILoad, aRLoad, aLLoad, aIStore, aRStore, aPush, aBin, aBinL, aShL, aUn, aIf, aIc, aGet, aPut, aIald, aBald, aAald, aIast, aBast, aAast, aAlen, aCopy, aCallV, aCallC, aCallI, aRet, aCat, aMax, aMin, aDiv, aRem, aI2l, aL2i, aNul, aSwS, aSw, aInc, aDup, aDup2, aPop1, aIret, aAret, aVret, aLen, aFk, aFT, Value.category, s1]
      refine Pair.now (v := I 114 (10 + 5 * p)) (I1 := aUpd (aUpd I (f + 13 + p) 1 (km / 10)) (f + 13 + p) 2 (km - km / 10 * 10)) (I2 := aUpd (aUpd (aUpd (aUpd I (f + 13 + p) 1 (km / 10)) (f + 13 + p) 2 (km - km / 10 * 10)) 114 (11 + 5 * p) (km - km / 10 * 10)) 114 (10 + 5 * p) (km / 10)) (P := P) (T := T) h h1 ?_ ?_ ((KG.rf.upd (by omega) (by omega)).upd (by omega) (by omega)) ((RG.rf.upd).upd) ?_
      · rw [e_66]; simp [s_66, aILoad, aRLoad, aLLoad, aIStore, aRStore, aPush, aBin, aBinL, aShL, aUn, aIf, aIc, aGet, aPut, aIald, aBald, aAald, aIast, aBast, aAast, aAlen, aCopy, aCallV, aCallC, aCallI, aRet, aCat, aMax, aMin, aDiv, aRem, aI2l, aL2i, aNul, aSwS, aSw, aInc, aDup, aDup2, aPop1, aIret, aAret, aVret, aLen, aFk, aFT, Value.category, c_sh, c_f h1, f_sh hf, pa, pe, s1, k_isKN, hk, kt]
      · have e114 : ∀ k a j b, aUpd (aUpd I (f + 13 + p) k a) (f + 13 + p) j b 114 = I 114 := fun k a j b => by rw [aUpd_ne (by omega), aUpd_ne (by omega)]
        have a1 : 10 + 5 * p + 1 = 11 + 5 * p := by omega
        have ix : (10 : Int32) + 5 * nI p = nI (10 + 5 * p) := by have := ix_p (p := p) (w := 0) (by omega) (by decide) (by decide); simpa using this
        rw [e_167]; simp [s_167, aILoad, aRLoad, aLLoad, aIStore, aRStore, aPush, aBin, aBinL, aShL, aUn, aIf, aIc, aGet, aPut, aIald, aBald, aAald, aIast, aBast, aAast, aAlen, aCopy, aCallV, aCallC, aCallI, aRet, aCat, aMax, aMin, aDiv, aRem, aI2l, aL2i, aNul, aSwS, aSw, aInc, aDup, aDup2, aPop1, aIret, aAret, aVret, aLen, aFk, aFT, Value.category, m_sh, m_p, r_isPerson, r_isKind, e114, e7, hp, hk, r_lays1 (show p < 8 by omega), a1, ix, r_change (show 10 + 5 * p < 454 by omega), aUpd_row, upd]
      · have z := (hA.setP (j := 0) (k := 10 + 5 * p) (v := km / 10) hpP (by omega) (by omega) (fun _ => km_kind hk) (fun z => by omega) (fun z => by omega)).setP (j := 1) (k := 11 + 5 * p) (v := km - km / 10 * 10) hpP (by omega) (by omega) (fun z => by omega) (fun z => by omega) (fun z => by omega)
        rw [upd_comm (by omega)] at z
        simp only [aUpd_row, aUpd_ne (show 114 ≠ f + 13 + p by omega)]
        exact z
    · refine Pair.ref 1 (-1000000001) h ?_ (fun I' hI => ?_)
      · rw [e_66]; simp [s_66, aILoad, aRLoad, aLLoad, aIStore, aRStore, aPush, aBin, aBinL, aShL, aUn, aIf, aIc, aGet, aPut, aIald, aBald, aAald, aIast, aBast, aAast, aAlen, aCopy, aCallV, aCallC, aCallI, aRet, aCat, aMax, aMin, aDiv, aRem, aI2l, aL2i, aNul, aSwS, aSw, aInc, aDup, aDup2, aPop1, aIret, aAret, aVret, aLen, aFk, aFT, Value.category, c_sh, c_f h1, f_sh hf, pa, pe, s1, k_isKN, hk, rf_1]
      · have e7' : I' 114 7 = nI P := by rw [hI 114 (by decide)]; exact e7
        rw [e_167]; simp [s_167, aILoad, aRLoad, aLLoad, aIStore, aRStore, aPush, aBin, aBinL, aShL, aUn, aIf, aIc, aGet, aPut, aIald, aBald, aAald, aIast, aBast, aAast, aAlen, aCopy, aCallV, aCallC, aCallI, aRet, aCat, aMax, aMin, aDiv, aRem, aI2l, aL2i, aNul, aSwS, aSw, aInc, aDup, aDup2, aPop1, aIret, aAret, aVret, aLen, aFk, aFT, Value.category, m_sh, m_p, r_isPerson, r_isKind, e7', hp, hk, re_1]
  · have pa := k_personNo (d := d + 17) (x := x) (y := y) hf hA.1 hp
    refine Pair.ref 1 (-1000000001) h ?_ (fun I' hI => ?_)
    · rw [e_66]; simp [s_66, aILoad, aRLoad, aLLoad, aIStore, aRStore, aPush, aBin, aBinL, aShL, aUn, aIf, aIc, aGet, aPut, aIald, aBald, aAald, aIast, aBast, aAast, aAlen, aCopy, aCallV, aCallC, aCallI, aRet, aCat, aMax, aMin, aDiv, aRem, aI2l, aL2i, aNul, aSwS, aSw, aInc, aDup, aDup2, aPop1, aIret, aAret, aVret, aLen, aFk, aFT, Value.category, c_sh, c_f h1, f_sh hf, pa, rf_1]
    · have e7' : I' 114 7 = nI P := by rw [hI 114 (by decide)]; exact e7
      rw [e_167]; simp [s_167, aILoad, aRLoad, aLLoad, aIStore, aRStore, aPush, aBin, aBinL, aShL, aUn, aIf, aIc, aGet, aPut, aIald, aBald, aAald, aIast, aBast, aAast, aAlen, aCopy, aCallV, aCallC, aCallI, aRet, aCat, aMax, aMin, aDiv, aRem, aI2l, aL2i, aNul, aSwS, aSw, aInc, aDup, aDup2, aPop1, aIret, aAret, aVret, aLen, aFk, aFT, Value.category, m_sh, m_p, r_isPerson, e7', hp, re_1]
end PAIR3
