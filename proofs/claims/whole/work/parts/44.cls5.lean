/-! the class: one COMES -/
theorem relF.setP' {f P T p j k : Nat} {I : Nat → Nat → Int32} {σ : Nat → Int32} {v : Int32} (h : relF f I σ P T) (hp : p < P) (hj : j < 5) (hk : k = 10 + 5 * p + j) : relF f (aUpd I (f + 13 + p) (j + 1) v) (upd σ k v) P T := by
  subst hk; exact h.setP hp hj
theorem relF.setT' {f P T t j k : Nat} {I : Nat → Nat → Int32} {σ : Nat → Int32} {v : Int32} (h : relF f I σ P T) (ht : t < T) (hj : j < 7) (hk : k = 50 + 7 * t + j) : relF f (aUpd I (f + 21 + t) j v) (upd σ k v) P T := by
  subst hk; exact h.setT ht hj
theorem sMin {m v : Int32} (h : 0 ≤ v) : (if v < m then v else m) = sHeld v 0 m := by
  unfold sHeld
  rw [if_pos h]
  by_cases h1 : v < m
  · rw [if_pos h1, if_pos (Int32.le_of_lt h1)]
  · rw [if_neg h1]
    by_cases h2 : v ≤ m
    · rw [if_pos h2]; exact Int32.le_antisymm (Int32.not_lt.mp h1) h2
    · rw [if_neg h2]
def inR (v : Int32) (m : Nat) : Prop := ∃ n, n ≤ m ∧ v = nI n
theorem inR.s1 {v : Int32} {m : Nat} (h : inR v m) (hm : m < 2 ^ 30) : 0 ≤ v + 1 := by
  obtain ⟨n, hn, rfl⟩ := h; rw [nI_1]; exact nI_pos' (by omega)
theorem inR.s4 {v : Int32} {m : Nat} (h : inR v m) (hm : m < 2 ^ 30) : 0 ≤ v + 4 := by
  obtain ⟨n, hn, rfl⟩ := h; rw [show (4 : Int32) = nI 4 from rfl, nI_add]; exact nI_pos' (by omega)
theorem inR.held {v : Int32} {m : Nat} (hm : m < 2 ^ 30) : inR (sHeld v 0 (nI m)) m := by
  unfold sHeld
  by_cases h0 : 0 ≤ v
  · rw [if_pos h0]
    by_cases h1 : v ≤ nI m
    · rw [if_pos h1]
      obtain ⟨p, hp, e⟩ := (isIn' (v := v) (a := 0) (b := m) (by omega) (by omega)).mp ⟨h0, h1⟩
      exact ⟨p, e.1, e.2⟩
    · rw [if_neg h1]; exact ⟨m, Nat.le_refl m, rfl⟩
  · rw [if_neg h0]; exact ⟨0, Nat.zero_le m, rfl⟩
def wfS (σ : Nat → Int32) (P T : Nat) : Prop :=
  (∀ p, p < P → inR (σ (10 + 5 * p)) 6 ∧ inR (σ (12 + 5 * p)) 99 ∧ inR (σ (13 + 5 * p)) 9) ∧ (∀ t, t < T → (∃ q, q < P ∧ σ (50 + 7 * t) = nI q) ∧ inR (σ (53 + 7 * t)) 9 ∧ (σ (55 + 7 * t) = 0 ∨ σ (55 + 7 * t) = 1 ∧ σ (56 + 7 * t) = -1)) ∧ okT σ ∧ (∀ k, 1 ≤ k → k < 4 → inR (σ k) 9999)
theorem wfS.th {σ : Nat → Int32} {P T : Nat} (h : wfS σ P T) : wfTh σ T := fun t ht => (h.2.1 t ht).2.2.imp id And.left
theorem wfS.ok {σ : Nat → Int32} {P T : Nat} (h : wfS σ P T) : okT σ := h.2.2.1
def sEat (σ : Nat → Int32) (p t : Nat) : Nat → Int32 :=
  let σ2 := upd σ (12 + 5 * p) 0
  if σ (50 + 7 * t) = nI p then sMore σ2 2 1 else
    let σ3 := sMore σ2 1 1
    let q := (σ (50 + 7 * t)).toNatClampNeg
    upd σ3 (13 + 5 * q) (sHeld (σ3 (13 + 5 * q) + 1) 0 9)
theorem sTaken_eat {σ : Nat → Int32} {p t : Nat} : sTaken σ p t = if σ (10 + 5 * p) = 6 then sMore (upd (upd σ (55 + 7 * t) 0) (56 + 7 * t) (nI p)) 3 1 else sEat (upd (upd σ (55 + 7 * t) 0) (56 + 7 * t) (nI p)) p t := by
  unfold sTaken sEat
  simp only [upd_ne (show 50 + 7 * t ≠ 56 + 7 * t by omega), upd_ne (show 50 + 7 * t ≠ 55 + 7 * t by omega)]
section CLS5
variable {d f P T : Nat} {I : Nat → Nat → Int32} {σ : Nat → Int32} {x y : Option Nat}
theorem k_loseOne {p : Nat} (hf : isF f) (h : relF f I σ P T) (hp : p < P) (hr : inR (σ (13 + 5 * p)) 9) : aCall aMt (d + 1) 36 [.ref (f + 13 + p)] (HH I x y) = some (none, HH (aUpd I (f + 13 + p) 4 (sHeld (σ (13 + 5 * p) + 1) 0 9)) x y) := by
  have hP := h.1
  rw [e_36, ← sMin (hr.s1 (by omega))]
  simp [s_36, aILoad, aRLoad, aLLoad, aIStore, aRStore, aPush, aBin, aBinL, aShL, aUn, aIf, aIc, aGet, aPut, aIald, aBald, aAald, aIast, aBast, aAast, aAlen, aCopy, aCallV, aCallC, aCallI, aRet, aCat, aMax, aMin, aDiv, aRem, aI2l, aL2i, aNul, aSwS, aSw, aInc, aDup, aDup2, aPop1, aIret, aAret, aVret, aLen, aFk, aFT, Value.category, f_pe hf (show p < 8 by omega), h.pe hp]
theorem k_eat {p t : Nat} (hf : isF f) (h : relF f I σ P T) (hw : wfS σ P T) (hp : p < P) (ht : t < T) : ∃ I1, aCall aMt (d + 3) 14 [.ref f, .ref (f + 13 + p), .ref (f + 21 + t)] (HH I x y) = some (none, HH I1 x y) ∧ relF f I1 (sEat σ p t) P T ∧ KH f I I1 := by
  have hP := h.1
  have g1 : relF f (aUpd I (f + 13 + p) 3 0) (upd σ (12 + 5 * p) 0) P T := h.setP' (j := 2) hp (by omega) (by omega)
  have k1 : KH f I (aUpd I (f + 13 + p) 3 0) := KH.rf.upd (by omega) (by omega)
  generalize hI1 : aUpd I (f + 13 + p) 3 0 = I1 at *
  have ho := k_owns (d := d + 1) (x := x) (y := y) hf g1 hp ht
  have e50 : upd σ (12 + 5 * p) 0 (50 + 7 * t) = σ (50 + 7 * t) := upd_ne (by omega)
  rw [e50] at ho
  have w1 : ∀ k, 1 ≤ k → k < 4 → upd σ (12 + 5 * p) 0 k = σ k := fun k _ _ => upd_ne (by omega)
  rw [e_14]
  by_cases own : σ (50 + 7 * t) = nI p
  · simp only [own, if_true] at ho
    refine ⟨aUpd I1 f 12 (sHeld (σ 2 + 1) 0 9999), ?_, ?_, k1.upd (by omega) (by omega)⟩
    · rw [← sMin ((hw.2.2.2 2 (by omega) (by omega)).s1 (by omega))]
      simp [s_14, aILoad, aRLoad, aLLoad, aIStore, aRStore, aPush, aBin, aBinL, aShL, aUn, aIf, aIc, aGet, aPut, aIald, aBald, aAald, aIast, aBast, aAast, aAlen, aCopy, aCallV, aCallC, aCallI, aRet, aCat, aMax, aMin, aDiv, aRem, aI2l, aL2i, aNul, aSwS, aSw, aInc, aDup, aDup2, aPop1, aIret, aAret, aVret, aLen, aFk, aFT, Value.category, f_sh hf, f_pe hf (show p < 8 by omega), f_th hf (show t < 10 by omega), hI1, ho, g1.fi, w1]
    · unfold sEat sMore
      rw [if_pos own, w1 2 (by omega) (by omega)]
      exact g1.setS (k := 2) (by omega)
  · simp only [own, if_false] at ho
    obtain ⟨q, hq, hqo⟩ := (hw.2.1 t ht).1
    have g2 : relF f (aUpd I1 f 11 (sHeld (σ 1 + 1) 0 9999)) (upd (upd σ (12 + 5 * p) 0) 1 (sHeld (σ 1 + 1) 0 9999)) P T := g1.setS (k := 1) (by omega)
    have k2 : KH f I (aUpd I1 f 11 (sHeld (σ 1 + 1) 0 9999)) := k1.upd (by omega) (by omega)
    generalize hI2 : aUpd I1 f 11 (sHeld (σ 1 + 1) 0 9999) = I2 at *
    generalize hσ2 : upd (upd σ (12 + 5 * p) 0) 1 (sHeld (σ 1 + 1) 0 9999) = σ2 at *
    have e2 : ∀ k, k ≠ 1 → k ≠ 12 + 5 * p → σ2 k = σ k := fun k h1 h2 => by rw [← hσ2, upd_ne h1, upd_ne h2]
    have hpa := k_personAt (d := d) (x := x) (y := y) hf g2 hq
    have hlo := k_loseOne (d := d + 1) (x := x) (y := y) hf g2 hq (by rw [e2 _ (by omega) (by omega)]; exact (hw.1 q hq).2.2)
    have g3 : relF f (aUpd I2 (f + 13 + q) 4 (sHeld (σ2 (13 + 5 * q) + 1) 0 9)) (upd σ2 (13 + 5 * q) (sHeld (σ2 (13 + 5 * q) + 1) 0 9)) P T := g2.setP' (j := 3) hq (by omega) (by omega)
    refine ⟨_, ?_, ?_, k2.upd (a := f + 13 + q) (k := 4) (v := sHeld (σ2 (13 + 5 * q) + 1) 0 9) (by omega) (by omega)⟩
    · have i0 : I1 (f + 21 + t) 0 = nI q := by rw [(g1.th ht).1, e50, hqo]
      have i2 : I2 (f + 21 + t) 0 = nI q := by rw [(g2.th ht).1, e2 _ (by omega) (by omega), hqo]
      rw [← sMin ((hw.2.2.2 1 (by omega) (by omega)).s1 (by omega))] at hI2
      simp [s_14, aILoad, aRLoad, aLLoad, aIStore, aRStore, aPush, aBin, aBinL, aShL, aUn, aIf, aIc, aGet, aPut, aIald, aBald, aAald, aIast, aBast, aAast, aAlen, aCopy, aCallV, aCallC, aCallI, aRet, aCat, aMax, aMin, aDiv, aRem, aI2l, aL2i, aNul, aSwS, aSw, aInc, aDup, aDup2, aPop1, aIret, aAret, aVret, aLen, aFk, aFT, Value.category, f_sh hf, f_pe hf (show p < 8 by omega), f_pe hf (show q < 8 by omega), f_th hf (show t < 10 by omega), hI1, ho, g1.fi, w1, hI2, i2, hpa, hlo]
    · unfold sEat sMore
      rw [if_neg own, w1 1 (by omega) (by omega), hσ2, hqo, toNat_nI (show q < 2 ^ 31 by omega)]
      exact g3
theorem k_taken {p : Nat} {s : Int32} (hf : isF f) (h : relF f I σ P T) (hw : wfS σ P T) (hp : p < P) : ∃ I1, aCall aMt (d + 6) 13 [.ref f, .ref (f + 13 + p), .int s] (HH I x y) = some (some (.int (sComes σ p s).1), HH I1 x y) ∧ relF f I1 (sComes σ p s).2 P T ∧ KH f I I1 := by
  have hP := h.1
  obtain ⟨I1, h1, h2⟩ := k_wanted (d := d) (x := x) (y := y) (s := s) hf h hp hw.ok hw.th
  have g1 := h.kf h2
  rw [e_13]
  unfold sComes
  rcases sWant_c (σ := σ) (p := p) (s := s) h.fi.2.2.2.1 hP.2 with hc | ⟨t, ht, hc⟩
  · refine ⟨I1, ?_, by rw [if_pos hc]; exact g1, h2.h⟩
    rw [hc] at h1
    have hn := k_thingNo (d := d + 3) (v := -1) (x := x) (y := y) hf g1 (fun z => absurd z.1 (by decide))
    simp [s_13, aILoad, aRLoad, aLLoad, aIStore, aRStore, aPush, aBin, aBinL, aShL, aUn, aIf, aIc, aGet, aPut, aIald, aBald, aAald, aIast, aBast, aAast, aAlen, aCopy, aCallV, aCallC, aCallI, aRet, aCat, aMax, aMin, aDiv, aRem, aI2l, aL2i, aNul, aSwS, aSw, aInc, aDup, aDup2, aPop1, aIret, aAret, aVret, aLen, aFk, aFT, Value.category, f_sh hf, f_pe hf (show p < 8 by omega), h1, hn, hc]
  · have hne : ¬ nI t = -1 := fun z => absurd (z ▸ nI_pos' (n := t) (by omega)) (by decide)
    rw [hc] at h1
    rw [hc, if_neg hne, toNat_nI (show t < 2 ^ 31 by omega)]
    have ha := k_thingAt (d := d + 3) (x := x) (y := y) hf g1 ht
    have hl := k_leave (d := d + 4) (x := x) (y := y) (I := I1) (v := nI p) hf (show t < 10 by omega)
    have g2 : relF f (aUpd (aUpd I1 (f + 21 + t) 5 0) (f + 21 + t) 6 (nI p)) (upd (upd σ (55 + 7 * t) 0) (56 + 7 * t) (nI p)) P T := (g1.setT' (j := 5) ht (by omega) (by omega)).setT' (j := 6) ht (by omega) (by omega)
    have k2 : KH f I (aUpd (aUpd I1 (f + 21 + t) 5 0) (f + 21 + t) 6 (nI p)) := (h2.h.upd (by omega) (by omega)).upd (by omega) (by omega)
    have i0 : I1 (f + 13 + p) 0 = nI p := (g1.pe hp).1
    have i1 : (aUpd (aUpd I1 (f + 21 + t) 5 0) (f + 21 + t) 6 (nI p)) (f + 13 + p) 1 = σ (10 + 5 * p) := by rw [(g2.pe hp).2.1, upd_ne (by omega), upd_ne (by omega)]
    have i3 : (aUpd (aUpd I1 (f + 21 + t) 5 0) (f + 21 + t) 6 (nI p)) f 13 = σ 3 := by rw [g2.fi.2.2.2.2.2.2.2.1, upd_ne (by omega), upd_ne (by omega)]
    have w2 : wfS (upd (upd σ (55 + 7 * t) 0) (56 + 7 * t) (nI p)) P T := by
      have eu : ∀ k, k ≠ 55 + 7 * t → k ≠ 56 + 7 * t → upd (upd σ (55 + 7 * t) 0) (56 + 7 * t) (nI p) k = σ k := fun k a b => by rw [upd_ne b, upd_ne a]
      refine ⟨fun q hq => ?_, fun u hu => ?_, okT_congr (fun k a b => eu k (by omega) (by omega)) hw.ok, fun k a b => by rw [eu k (by omega) (by omega)]; exact hw.2.2.2 k a b⟩
      · rw [eu _ (by omega) (by omega), eu _ (by omega) (by omega), eu _ (by omega) (by omega)]; exact hw.1 q hq
      · rw [eu (50 + 7 * u) (by omega) (by omega), eu (53 + 7 * u) (by omega) (by omega)]
        refine ⟨(hw.2.1 u hu).1, (hw.2.1 u hu).2.1, ?_⟩
        by_cases e : u = t
        · subst e; left; rw [upd_ne (by omega), upd_eq]
        · rw [eu _ (by omega) (by omega), eu _ (by omega) (by omega)]; exact (hw.2.1 u hu).2.2
    have e1 : (upd (upd σ (55 + 7 * t) 0) (56 + 7 * t) (nI p)) 3 = σ 3 := by rw [upd_ne (by omega), upd_ne (by omega)]
    generalize hI2 : aUpd (aUpd I1 (f + 21 + t) 5 0) (f + 21 + t) 6 (nI p) = I2 at *
    simp only [sTaken_eat]
    generalize hσ2 : upd (upd σ (55 + 7 * t) 0) (56 + 7 * t) (nI p) = σ2 at *
    by_cases k6 : σ (10 + 5 * p) = 6
    · refine ⟨aUpd I2 f 13 (sHeld (σ 3 + 1) 0 9999), ?_, ?_, k2.upd (by omega) (by omega)⟩
      · rw [← sMin ((hw.2.2.2 3 (by omega) (by omega)).s1 (by omega))]
        simp [s_13, aILoad, aRLoad, aLLoad, aIStore, aRStore, aPush, aBin, aBinL, aShL, aUn, aIf, aIc, aGet, aPut, aIald, aBald, aAald, aIast, aBast, aAast, aAlen, aCopy, aCallV, aCallC, aCallI, aRet, aCat, aMax, aMin, aDiv, aRem, aI2l, aL2i, aNul, aSwS, aSw, aInc, aDup, aDup2, aPop1, aIret, aAret, aVret, aLen, aFk, aFT, Value.category, f_sh hf, f_pe hf (show p < 8 by omega), f_th hf (show t < 10 by omega), h1, ha, i0, hl, i1, k6, i3]
      · rw [if_pos k6]; unfold sMore; rw [e1]
        exact g2.setS (k := 3) (by omega)
    · obtain ⟨I3, h3, h4, h5⟩ := k_eat (d := d + 2) (x := x) (y := y) hf g2 w2 hp ht
      refine ⟨I3, ?_, by rw [if_neg k6]; exact h4, k2.trans h5⟩
      simp [s_13, aILoad, aRLoad, aLLoad, aIStore, aRStore, aPush, aBin, aBinL, aShL, aUn, aIf, aIc, aGet, aPut, aIald, aBald, aAald, aIast, aBast, aAast, aAlen, aCopy, aCallV, aCallC, aCallI, aRet, aCat, aMax, aMin, aDiv, aRem, aI2l, aL2i, aNul, aSwS, aSw, aInc, aDup, aDup2, aPop1, aIret, aAret, aVret, aLen, aFk, aFT, Value.category, f_sh hf, f_pe hf (show p < 8 by omega), f_th hf (show t < 10 by omega), h1, ha, i0, hl, i1, k6, h3]
end CLS5
