/-! the class: an HOUR goes, by draws; what stays as it must -/
theorem wfS.set {σ : Nat → Int32} {P T k : Nat} {v : Int32} (h : wfS σ P T) (a : ∀ p, p < P → k = 10 + 5 * p → inR v 6) (b : ∀ p, p < P → k = 12 + 5 * p → inR v 99) (c : ∀ p, p < P → k = 13 + 5 * p → inR v 9)
    (e : ∀ t, t < T → k = 50 + 7 * t → ∃ q, q < P ∧ v = nI q) (f : ∀ t, t < T → k = 53 + 7 * t → inR v 9) (g : ∀ t, t < T → k = 55 + 7 * t → v = 0 ∨ v = 1 ∧ σ (56 + 7 * t) = -1) (i : ∀ t, t < T → k = 56 + 7 * t → σ (55 + 7 * t) = 0 ∨ v = -1) (j : k < 120 ∨ 370 ≤ k) (l : 1 ≤ k → k < 4 → inR v 9999) : wfS (upd σ k v) P T := by
  obtain ⟨h1, h2, h3, h4⟩ := h
  refine ⟨fun p hp => ⟨?_, ?_, ?_⟩, fun t ht => ⟨?_, ?_, ?_⟩, okT_congr (fun m m1 m2 => upd_ne (by omega)) h3, fun m m1 m2 => ?_⟩
  · by_cases z : 10 + 5 * p = k
    · rw [z, upd_eq]; exact a p hp z.symm
    · rw [upd_ne z]; exact (h1 p hp).1
  · by_cases z : 12 + 5 * p = k
    · rw [z, upd_eq]; exact b p hp z.symm
    · rw [upd_ne z]; exact (h1 p hp).2.1
  · by_cases z : 13 + 5 * p = k
    · rw [z, upd_eq]; exact c p hp z.symm
    · rw [upd_ne z]; exact (h1 p hp).2.2
  · by_cases z : 50 + 7 * t = k
    · rw [z, upd_eq]; exact e t ht z.symm
    · rw [upd_ne z]; exact (h2 t ht).1
  · by_cases z : 53 + 7 * t = k
    · rw [z, upd_eq]; exact f t ht z.symm
    · rw [upd_ne z]; exact (h2 t ht).2.1
  · by_cases z : 55 + 7 * t = k
    · rw [z, upd_eq, upd_ne (by omega)]; exact g t ht z.symm
    · rw [upd_ne z]
      by_cases z2 : 56 + 7 * t = k
      · rw [z2, upd_eq]
        rcases (h2 t ht).2.2 with w | ⟨w, w2⟩
        · exact Or.inl w
        · rcases i t ht z2.symm with w3 | w3
          · exact Or.inl w3
          · exact Or.inr ⟨w, w3⟩
      · rw [upd_ne z2]; exact (h2 t ht).2.2
  · by_cases z : m = k
    · subst z; rw [upd_eq]; exact l m1 m2
    · rw [upd_ne z]; exact h4 m m1 m2
theorem wfS.eat {σ : Nat → Int32} {P T p t : Nat} (h : wfS σ P T) (hP : P ≤ 8) (hp : p < P) (ht : t < T) : wfS (sEat σ p t) P T := by
  have h0 : inR 0 99 := ⟨0, by omega, rfl⟩
  have h1 : wfS (upd σ (12 + 5 * p) 0) P T := h.set (fun q _ z => by omega) (fun q _ z => h0) (fun q _ z => by omega) (fun q _ z => by omega) (fun q _ z => by omega) (fun q _ z => by omega) (fun q _ z => by omega) (by omega) (fun _ _ => by omega)
  unfold sEat
  by_cases own : σ (50 + 7 * t) = nI p
  · rw [if_pos own]
    exact h1.set (fun q _ z => by omega) (fun q _ z => by omega) (fun q _ z => by omega) (fun q _ z => by omega) (fun q _ z => by omega) (fun q _ z => by omega) (fun q _ z => by omega) (by omega) (fun _ _ => inR.held (m := 9999) (by omega))
  · rw [if_neg own]
    obtain ⟨q, hq, e⟩ := (h.2.1 t ht).1
    have h2 : wfS (sMore (upd σ (12 + 5 * p) 0) 1 1) P T := h1.set (fun q _ z => by omega) (fun q _ z => by omega) (fun q _ z => by omega) (fun q _ z => by omega) (fun q _ z => by omega) (fun q _ z => by omega) (fun q _ z => by omega) (by omega) (fun _ _ => inR.held (m := 9999) (by omega))
    rw [e, toNat_nI (by omega)]
    exact h2.set (fun q _ z => by omega) (fun q _ z => by omega) (fun q _ z => inR.held (m := 9) (by omega)) (fun q _ z => by omega) (fun q _ z => by omega) (fun q _ z => by omega) (fun q _ z => by omega) (by omega) (fun _ _ => by omega)
theorem wfS.taken {σ : Nat → Int32} {P T p t : Nat} (h : wfS σ P T) (hP : P ≤ 8) (hT : T ≤ 10) (hp : p < P) (ht : t < T) : wfS (sTaken σ p t) P T := by
  have h1 : wfS (upd σ (55 + 7 * t) 0) P T := h.set (fun q _ z => by omega) (fun q _ z => by omega) (fun q _ z => by omega) (fun q _ z => by omega) (fun q _ z => by omega) (fun q _ z => Or.inl rfl) (fun q _ z => by omega) (by omega) (fun _ _ => by omega)
  have h2 : wfS (upd (upd σ (55 + 7 * t) 0) (56 + 7 * t) (nI p)) P T := h1.set (fun q _ z => by omega) (fun q _ z => by omega) (fun q _ z => by omega) (fun q _ z => by omega) (fun q _ z => by omega) (fun q _ z => by omega) (fun q _ z => by
    obtain rfl : q = t := by omega
    left; exact upd_eq) (by omega) (fun _ _ => by omega)
  rw [sTaken_eat]
  split
  · exact h2.set (fun q _ z => by omega) (fun q _ z => by omega) (fun q _ z => by omega) (fun q _ z => by omega) (fun q _ z => by omega) (fun q _ z => by omega) (fun q _ z => by omega) (by omega) (fun _ _ => inR.held (m := 9999) (by omega))
  · exact h2.eat hP hp ht
theorem wfS.comes {σ : Nat → Int32} {P T p : Nat} {s : Int32} (h : wfS σ P T) (h8 : σ 8 = nI T) (hP : P ≤ 8) (hT : T ≤ 10) (hp : p < P) : wfS (sComes σ p s).2 P T := by
  unfold sComes
  rcases sWant_c (σ := σ) (p := p) (s := s) h8 hT with hc | ⟨t, ht, hc⟩
  · rw [if_pos hc]; exact h
  · have hne : ¬ nI t = -1 := fun z => absurd (z ▸ nI_pos' (n := t) (by omega)) (by decide)
    rw [hc, if_neg hne, toNat_nI (by omega)]; exact h.taken hP hT hp ht
theorem wfS.hun {σ : Nat → Int32} {P T : Nat} (h : wfS σ P T) (hP : P ≤ 8) : ∀ n, n ≤ P → wfS (sHun σ n) P T
  | 0, _ => h
  | n + 1, hn => (wfS.hun h hP n (by omega)).set (fun q _ z => by omega) (fun q _ z => inR.held (m := 99) (by omega)) (fun q _ z => by omega) (fun q _ z => by omega) (fun q _ z => by omega) (fun q _ z => by omega) (fun q _ z => by omega) (by omega) (fun _ _ => by omega)
theorem wfS.age {σ : Nat → Int32} {P T : Nat} (h : wfS σ P T) (hP : P ≤ 8) (hT : T ≤ 10) : ∀ n, n ≤ T → wfS (sAge σ n) P T
  | 0, _ => h
  | n + 1, hn => (wfS.age h hP hT n (by omega)).set (fun q _ z => by omega) (fun q _ z => by omega) (fun q _ z => by omega) (fun q _ z => by omega) (fun q _ z => by
      split
      · exact inR.held (m := 9) (by omega)
      · exact ((wfS.age h hP hT n (by omega)).2.1 n (by omega)).2.1) (fun q _ z => by omega) (fun q _ z => by omega) (by omega) (fun _ _ => by omega)
theorem wfS.hr {σ : Nat → Int32} {P T : Nat} {v : Int32} (h : wfS σ P T) : wfS (upd σ 0 v) P T := h.set (fun q _ z => by omega) (fun q _ z => by omega) (fun q _ z => by omega) (fun q _ z => by omega) (fun q _ z => by omega) (fun q _ z => by omega) (fun q _ z => by omega) (by omega) (fun _ _ => by omega)
theorem wfS.zz {σ : Nat → Int32} {P T : Nat} {v : Int32} (h : wfS σ P T) : wfS (upd σ 4 v) P T := h.set (fun q _ z => by omega) (fun q _ z => by omega) (fun q _ z => by omega) (fun q _ z => by omega) (fun q _ z => by omega) (fun q _ z => by omega) (fun q _ z => by omega) (by omega) (fun _ _ => by omega)
theorem wfS.hour {σ : Nat → Int32} {P T : Nat} (h : wfS σ P T) (h7 : σ 7 = nI P) (h8 : σ 8 = nI T) (hP : P ≤ 8) (hT : T ≤ 10) : wfS (sHour σ) P T := by
  unfold sHour
  simp only [h7, h8, toNat_nI (show P < 2 ^ 31 by omega), toNat_nI (show T < 2 ^ 31 by omega)]
  have h1 := (h.hr (v := σ 0 + 1)).hun hP P (Nat.le_refl P)
  split
  · exact h1.age hP hT T (Nat.le_refl T)
  · exact h1
section CLS6
variable {d f P T : Nat} {I : Nat → Nat → Int32} {σ : Nat → Int32} {x y : Option Nat}
theorem k_hunger {p : Nat} (hf : isF f) (h : relF f I σ P T) (hp : p < P) (hr : inR (σ (12 + 5 * p)) 99) : aCall aMt (d + 1) 35 [.ref (f + 13 + p)] (HH I x y) = some (none, HH (aUpd I (f + 13 + p) 3 (sHeld (σ (12 + 5 * p) + 4) 0 99)) x y) := by
  have hP := h.1
  rw [e_35, ← sMin (hr.s4 (by omega))]
  simp [s_35, aILoad, aRLoad, aLLoad, aIStore, aRStore, aPush, aBin, aBinL, aShL, aUn, aIf, aIc, aGet, aPut, aIald, aBald, aAald, aIast, aBast, aAast, aAlen, aCopy, aCallV, aCallC, aCallI, aRet, aCat, aMax, aMin, aDiv, aRem, aI2l, aL2i, aNul, aSwS, aSw, aInc, aDup, aDup2, aPop1, aIret, aAret, aVret, aLen, aFk, aFT, Value.category, f_pe hf (show p < 8 by omega), h.pe hp]
theorem k_grow {t : Nat} (hf : isF f) (h : relF f I σ P T) (ht : t < T) (hr : inR (σ (53 + 7 * t)) 9) : aCall aMt (d + 1) 56 [.ref (f + 21 + t)] (HH I x y) = some (none, HH (aUpd I (f + 21 + t) 3 (sHeld (σ (53 + 7 * t) + 1) 0 9)) x y) := by
  have hP := h.1
  rw [e_56, ← sMin (hr.s1 (by omega))]
  simp [s_56, aILoad, aRLoad, aLLoad, aIStore, aRStore, aPush, aBin, aBinL, aShL, aUn, aIf, aIc, aGet, aPut, aIald, aBald, aAald, aIast, aBast, aAast, aAlen, aCopy, aCallV, aCallC, aCallI, aRet, aCat, aMax, aMin, aDiv, aRem, aI2l, aL2i, aNul, aSwS, aSw, aInc, aDup, aDup2, aPop1, aIret, aAret, aVret, aLen, aFk, aFT, Value.category, f_th hf (show t < 10 by omega), h.th ht]
theorem k_age_loop {I0 : Nat → Nat → Int32} (hf : isF f) (hw : wfS σ P T) (hP : P ≤ 8) (hT : T ≤ 10) : ∀ k t (I : Nat → Nat → Int32), t + k = T → relF f I (sAge σ t) P T → KH f I0 I →
    ∃ I1, aGo (aCall aMt (d + 1)) none cd_18 3 48 [some (.ref f), some (.int (nI t))] [] (HH I x y) = some (none, HH I1 x y) ∧ relF f I1 (sAge σ T) P T ∧ KH f I0 I1 := by
  intro k
  induction k with
  | zero =>
    intro t I ht h hk
    obtain rfl : t = T := by omega
    refine ⟨I, ?_, h, hk⟩
    rw [s_18_48]
    simp [s_18, aILoad, aRLoad, aLLoad, aIStore, aRStore, aPush, aBin, aBinL, aShL, aUn, aIf, aIc, aGet, aPut, aIald, aBald, aAald, aIast, aBast, aAast, aAlen, aCopy, aCallV, aCallC, aCallI, aRet, aCat, aMax, aMin, aDiv, aRem, aI2l, aL2i, aNul, aSwS, aSw, aInc, aDup, aDup2, aPop1, aIret, aAret, aVret, aLen, aFk, aFT, Value.category, f_sh hf, h.fi]
  | succ k ih =>
    intro t I ht h hk
    have h1 : ¬ nI T ≤ nI t := nI_ge (by omega) (by omega)
    have hw1 := hw.age hP hT t (by omega)
    rw [s_18_48]
    rcases (hw1.2.1 t (by omega)).2.2 with hi | hi
    · obtain ⟨I1, g1, g2, g3⟩ := ih (t + 1) I (by omega) (by rw [sAge, hi, if_neg (by decide), show upd (sAge σ t) (53 + 7 * t) (sAge σ t (53 + 7 * t)) = sAge σ t from by funext j; simp only [upd]; split <;> simp_all]; exact h) hk
      refine ⟨I1, ?_, g2, g3⟩
      rw [← g1]
      simp [s_18, aILoad, aRLoad, aLLoad, aIStore, aRStore, aPush, aBin, aBinL, aShL, aUn, aIf, aIc, aGet, aPut, aIald, aBald, aAald, aIast, aBast, aAast, aAlen, aCopy, aCallV, aCallC, aCallI, aRet, aCat, aMax, aMin, aDiv, aRem, aI2l, aL2i, aNul, aSwS, aSw, aInc, aDup, aDup2, aPop1, aIret, aAret, aVret, aLen, aFk, aFT, Value.category, f_sh hf, f_p hf, f_tp hf (show t < 10 by omega), f_th hf (show t < 10 by omega), h.fi, h1, h.th (show t < T by omega), hi, nI_1, toNat_nI (show t < 2 ^ 31 by omega), nI_lt0 (show t < 2 ^ 31 by omega), show ¬ 10 ≤ t by omega]
    · have hg := k_grow (d := d) (x := x) (y := y) hf h (show t < T by omega) (hw1.2.1 t (by omega)).2.1
      obtain ⟨I1, g1, g2, g3⟩ := ih (t + 1) (aUpd I (f + 21 + t) 3 (sHeld (sAge σ t (53 + 7 * t) + 1) 0 9)) (by omega) (by rw [sAge, if_pos hi.1]; exact h.setT' (j := 3) (by omega) (by omega) (by omega)) (hk.upd (by omega) (by omega))
      refine ⟨I1, ?_, g2, g3⟩
      rw [← g1]
      simp [s_18, aILoad, aRLoad, aLLoad, aIStore, aRStore, aPush, aBin, aBinL, aShL, aUn, aIf, aIc, aGet, aPut, aIald, aBald, aAald, aIast, aBast, aAast, aAlen, aCopy, aCallV, aCallC, aCallI, aRet, aCat, aMax, aMin, aDiv, aRem, aI2l, aL2i, aNul, aSwS, aSw, aInc, aDup, aDup2, aPop1, aIret, aAret, aVret, aLen, aFk, aFT, Value.category, f_sh hf, f_p hf, f_tp hf (show t < 10 by omega), f_th hf (show t < 10 by omega), h.fi, h1, h.th (show t < T by omega), hi, nI_1, toNat_nI (show t < 2 ^ 31 by omega), nI_lt0 (show t < 2 ^ 31 by omega), show ¬ 10 ≤ t by omega, hg]
theorem k_hun_loop {I0 : Nat → Nat → Int32} (hf : isF f) (hw : wfS σ P T) (hP : P ≤ 8) (hT : T ≤ 10) : ∀ k p (I : Nat → Nat → Int32), p + k = P → relF f I (sHun σ p) P T → KH f I0 I →
    ∃ I1, aGo (aCall aMt (d + 1)) none cd_18 3 12 [some (.ref f), some (.int (nI p))] [] (HH I x y) = some (none, HH I1 x y) ∧ relF f I1 (if sHun σ P 0 - sHun σ P 0 / 8 * 8 = 0 then sAge (sHun σ P) T else sHun σ P) P T ∧ KH f I0 I1 := by
  intro k
  induction k with
  | zero =>
    intro p I hp h hk
    obtain rfl : p = P := by omega
    rw [s_18_12]
    by_cases hc : sHun σ p 0 - sHun σ p 0 / 8 * 8 = 0
    · obtain ⟨I1, g1, g2, g3⟩ := k_age_loop (d := d) (x := x) (y := y) (I0 := I0) hf (hw.hun hP p (by omega)) hP hT T 0 I (by omega) h hk
      refine ⟨I1, ?_, by rw [if_pos hc]; exact g2, g3⟩
      rw [← g1, nI_lit0]
      simp [s_18, aILoad, aRLoad, aLLoad, aIStore, aRStore, aPush, aBin, aBinL, aShL, aUn, aIf, aIc, aGet, aPut, aIald, aBald, aAald, aIast, aBast, aAast, aAlen, aCopy, aCallV, aCallC, aCallI, aRet, aCat, aMax, aMin, aDiv, aRem, aI2l, aL2i, aNul, aSwS, aSw, aInc, aDup, aDup2, aPop1, aIret, aAret, aVret, aLen, aFk, aFT, Value.category, f_sh hf, h.fi, hc]
    · refine ⟨I, ?_, by rw [if_neg hc]; exact h, hk⟩
      simp [s_18, aILoad, aRLoad, aLLoad, aIStore, aRStore, aPush, aBin, aBinL, aShL, aUn, aIf, aIc, aGet, aPut, aIald, aBald, aAald, aIast, aBast, aAast, aAlen, aCopy, aCallV, aCallC, aCallI, aRet, aCat, aMax, aMin, aDiv, aRem, aI2l, aL2i, aNul, aSwS, aSw, aInc, aDup, aDup2, aPop1, aIret, aAret, aVret, aLen, aFk, aFT, Value.category, f_sh hf, h.fi, hc]
  | succ k ih =>
    intro p I hp h hk
    have h1 : ¬ nI P ≤ nI p := nI_ge (by omega) (by omega)
    have hw1 := hw.hun hP p (by omega)
    have hg := k_hunger (d := d) (x := x) (y := y) hf h (show p < P by omega) (hw1.1 p (by omega)).2.1
    obtain ⟨I1, g1, g2, g3⟩ := ih (p + 1) (aUpd I (f + 13 + p) 3 (sHeld (sHun σ p (12 + 5 * p) + 4) 0 99)) (by omega) (by rw [sHun]; exact h.setP' (j := 2) (by omega) (by omega) (by omega)) (hk.upd (by omega) (by omega))
    refine ⟨I1, ?_, g2, g3⟩
    rw [← g1, s_18_12]
    simp [s_18, aILoad, aRLoad, aLLoad, aIStore, aRStore, aPush, aBin, aBinL, aShL, aUn, aIf, aIc, aGet, aPut, aIald, aBald, aAald, aIast, aBast, aAast, aAlen, aCopy, aCallV, aCallC, aCallI, aRet, aCat, aMax, aMin, aDiv, aRem, aI2l, aL2i, aNul, aSwS, aSw, aInc, aDup, aDup2, aPop1, aIret, aAret, aVret, aLen, aFk, aFT, Value.category, f_sh hf, f_p hf, f_pp hf (show p < 8 by omega), f_pe hf (show p < 8 by omega), h.fi, h1, nI_1, toNat_nI (show p < 2 ^ 31 by omega), nI_lt0 (show p < 2 ^ 31 by omega), show ¬ 8 ≤ p by omega, hg]
theorem k_hour (hf : isF f) (h : relF f I σ P T) (hw : wfS σ P T) : ∃ I1, aCall aMt (d + 2) 18 [.ref f] (HH I x y) = some (none, HH I1 x y) ∧ relF f I1 (sHour σ) P T ∧ KH f I I1 := by
  have hP := h.1
  obtain ⟨I1, g1, g2, g3⟩ := k_hun_loop (d := d) (x := x) (y := y) (I0 := I) (σ := upd σ 0 (σ 0 + 1)) hf hw.hr hP.1 hP.2 P 0 (aUpd I f 10 (σ 0 + 1)) (by omega) (h.setS (k := 0) (by omega)) (KH.rf.upd (by omega) (by omega))
  refine ⟨I1, ?_, ?_, g3⟩
  · rw [e_18, ← g1, nI_lit0]
    simp [s_18, aILoad, aRLoad, aLLoad, aIStore, aRStore, aPush, aBin, aBinL, aShL, aUn, aIf, aIc, aGet, aPut, aIald, aBald, aAald, aIast, aBast, aAast, aAlen, aCopy, aCallV, aCallC, aCallI, aRet, aCat, aMax, aMin, aDiv, aRem, aI2l, aL2i, aNul, aSwS, aSw, aInc, aDup, aDup2, aPop1, aIret, aAret, aVret, aLen, aFk, aFT, Value.category, f_sh hf, h.fi]
  · unfold sHour
    simp only [h.fi.2.2.1, h.fi.2.2.2.1, toNat_nI (show P < 2 ^ 31 by omega), toNat_nI (show T < 2 ^ 31 by omega)]
    exact g2
theorem k_drawn {N : Nat} (hf : isF f) (h : relF f I σ P T) (h0 : 0 < N) (hN : N < 2 ^ 30) : aCall aMt (d + 1) 16 [.ref f, .int (nI N)] (HH I x y) = some (some (.int (nI (sDr (sDraw σ 4) % N))), HH (aUpd I f 14 (sDraw σ 4)) x y) := by
  have l1 := sDr_lt (sDraw σ 4)
  have m1 := pk_rem (a := sDr (sDraw σ 4)) (d := N) (by omega) h0 (by omega)
  have hz : ¬ nI N ≤ 0 := nI_nle h0 (by omega)
  have hne : ¬ nI N = 0 := nI_ne0 h0 (by omega)
  have e4 : σ 4 * 1103515245 + 12345 = sDraw σ 4 := by unfold sDraw; rw [upd_eq]
  rw [e_16, ← m1, ← sDr_eq]
  simp [s_16, aILoad, aRLoad, aLLoad, aIStore, aRStore, aPush, aBin, aBinL, aShL, aUn, aIf, aIc, aGet, aPut, aIald, aBald, aAald, aIast, aBast, aAast, aAlen, aCopy, aCallV, aCallC, aCallI, aRet, aCat, aMax, aMin, aDiv, aRem, aI2l, aL2i, aNul, aSwS, aSw, aInc, aDup, aDup2, aPop1, aIret, aAret, aVret, aLen, aFk, aFT, Value.category, f_sh hf, h.fi, hz, hne, e4, aUpd_row, upd_eq]
theorem relF.draw (h : relF f I σ P T) : relF f (aUpd I f 14 (sDraw σ 4)) (sDraw σ) P T := by
  have g := h.setS (k := 4) (v := sDraw σ 4) (by omega)
  have e : upd σ 4 (sDraw σ 4) = sDraw σ := by unfold sDraw; rw [upd_eq]
  rw [e] at g; exact g
theorem k_hourBy (hf : isF f) (h : relF f I σ P T) (hw : wfS σ P T) : ∃ I1, aCall aMt (d + 7) 17 [.ref f] (HH I x y) = some (some (.int (sDrawn σ).1), HH I1 x y) ∧ relF f I1 (sDrawn σ).2 P T ∧ KH f I I1 := by
  have hP := h.1
  rw [e_17]
  by_cases h0 : P = 0
  · subst h0
    obtain ⟨I1, g1, g2, g3⟩ := k_hour (d := d + 4) (x := x) (y := y) hf h hw
    have e7 : σ 7 = 0 := h.fi.2.2.1
    have e6 : I f 6 = 0 := h.fi.1
    refine ⟨I1, ?_, by unfold sDrawn; rw [if_pos e7]; exact g2, g3⟩
    simp [s_17, aILoad, aRLoad, aLLoad, aIStore, aRStore, aPush, aBin, aBinL, aShL, aUn, aIf, aIc, aGet, aPut, aIald, aBald, aAald, aIast, aBast, aAast, aAlen, aCopy, aCallV, aCallC, aCallI, aRet, aCat, aMax, aMin, aDiv, aRem, aI2l, aL2i, aNul, aSwS, aSw, aInc, aDup, aDup2, aPop1, aIret, aAret, aVret, aLen, aFk, aFT, Value.category, f_sh hf, e6, g1, sDrawn, e7]
  · have hz : ¬ nI P ≤ 0 := nI_nle (by omega) (by omega)
    have hne : ¬ nI P = 0 := nI_ne0 (by omega) (by omega)
    have d1 := k_drawn (d := d + 5) (x := x) (y := y) hf h (show 0 < P by omega) (by omega)
    have r1 := h.draw
    have k1 : KH f I (aUpd I f 14 (sDraw σ 4)) := KH.rf.upd (by omega) (by omega)
    generalize aUpd I f 14 (sDraw σ 4) = I1 at *
    have d2 := k_drawn (d := d + 5) (x := x) (y := y) (N := 2) hf r1 (by omega) (by omega)
    rw [show nI 2 = (2 : Int32) from rfl] at d2
    have r2 := r1.draw
    have k2 : KH f I (aUpd I1 f 14 (sDraw (sDraw σ) 4)) := k1.upd (by omega) (by omega)
    generalize aUpd I1 f 14 (sDraw (sDraw σ) 4) = I2 at *
    have hp' : sDr (sDraw σ 4) % P < P := Nat.mod_lt _ (by omega)
    have pa := k_personAt (d := d + 4) (x := x) (y := y) hf r1 hp'
    have w2 : wfS (sDraw (sDraw σ)) P T := hw.zz.zz
    obtain ⟨I3, g1, g2, g3⟩ := k_taken (d := d) (x := x) (y := y) (s := nI (sDr (sDraw (sDraw σ) 4) % 2)) hf r2 w2 hp'
    have w3 := w2.comes (s := nI (sDr (sDraw (sDraw σ) 4) % 2)) r2.fi.2.2.2.1 hP.1 hP.2 hp'
    obtain ⟨I4, q1, q2, q3⟩ := k_hour (d := d + 4) (x := x) (y := y) hf g2 w3
    refine ⟨I4, ?_, ?_, (k2.trans g3).trans q3⟩
    · have hs : (sDrawn σ).1 = (sComes (sDraw (sDraw σ)) (sDr (sDraw σ 4) % P) (nI (sDr (sDraw (sDraw σ) 4) % 2))).1 := by
        unfold sDrawn; rw [h.fi.2.2.1, if_neg hne, toNat_nI (by omega)]
      rw [hs]
      simp [s_17, aILoad, aRLoad, aLLoad, aIStore, aRStore, aPush, aBin, aBinL, aShL, aUn, aIf, aIc, aGet, aPut, aIald, aBald, aAald, aIast, aBast, aAast, aAlen, aCopy, aCallV, aCallC, aCallI, aRet, aCat, aMax, aMin, aDiv, aRem, aI2l, aL2i, aNul, aSwS, aSw, aInc, aDup, aDup2, aPop1, aIret, aAret, aVret, aLen, aFk, aFT, Value.category, f_sh hf, f_pe hf (show sDr (sDraw σ 4) % P < 8 by omega), h.fi, hz, d1, pa, d2, g1, q1]
    · unfold sDrawn; rw [h.fi.2.2.1, if_neg hne, toNat_nI (by omega)]; exact q2
theorem wfS.drawn (hw : wfS σ P T) (h7 : σ 7 = nI P) (h8 : σ 8 = nI T) (hP : P ≤ 8) (hT : T ≤ 10) : wfS (sDrawn σ).2 P T := by
  unfold sDrawn
  by_cases h0 : P = 0
  · subst h0; rw [if_pos (show σ 7 = 0 from h7)]; exact hw.hour h7 h8 hP hT
  · have hne : ¬ nI P = 0 := nI_ne0 (by omega) (by omega)
    rw [h7, if_neg hne, toNat_nI (by omega)]
    have w2 : wfS (sDraw (sDraw σ)) P T := hw.zz.zz
    have e8 : sDraw (sDraw σ) 8 = nI T := by unfold sDraw; rw [upd_ne (by omega), upd_ne (by omega)]; exact h8
    have e7 : sDraw (sDraw σ) 7 = nI P := by unfold sDraw; rw [upd_ne (by omega), upd_ne (by omega)]; exact h7
    exact (w2.comes e8 hP hT (Nat.mod_lt _ (by omega))).hour (by rw [sComes_lo (by omega)]; exact e7) (by rw [sComes_lo (by omega)]; exact e8) hP hT
end CLS6
