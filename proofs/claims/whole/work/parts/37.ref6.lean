/-! the reference: one WANTS, COMES; an HOUR -/
def RG (I I1 : Nat → Nat → Int32) : Prop := ∀ j, j ≠ 114 → j ≠ 119 → j ≠ 120 → I1 j = I j
theorem RG.rf {I : Nat → Nat → Int32} : RG I I := fun _ _ _ _ => rfl
theorem RG.trans {I I1 I2 : Nat → Nat → Int32} (h1 : RG I I1) (h2 : RG I1 I2) : RG I I2 := fun j a b c => (h2 j a b c).trans (h1 j a b c)
theorem RF.g {I I1 : Nat → Nat → Int32} (h : RF I I1) : RG I I1 := fun j _ a b => h j a b
theorem RG.upd {I I1 : Nat → Nat → Int32} {k : Nat} {v : Int32} (h : RG I I1) : RG I (aUpd I1 114 k v) := fun j a b c => by rw [aUpd_ne a]; exact h j a b c
theorem RF.a {I I1 : Nat → Nat → Int32} (h : RF I I1) : I1 114 = I 114 := h 114 (by decide) (by decide)
section REF7
variable {d : Nat} {I : Nat → Nat → Int32} {x y : Option Nat}
theorem r_drawn {p t : Nat} {s : Int32} (hp : p < 8) (ht : t < 10) (hT : okT (I 114)) : ∃ I1, aCall aMt (d + 7) 155 [.ref 113, .int (nI p), .int (nI t), .int s] (HH I x y) = some (some (.int (sPull (I 114) p t s)), HH I1 x y) ∧ RF I I1 := by
  obtain ⟨I1, h1, h2⟩ := r_urgeOf (d := d) (x := x) (y := y) hp ht hT.1
  rw [e_155]
  by_cases hown : I 114 (50 + 7 * t) = nI p
  · refine ⟨I1, ?_, h2⟩
    simp [s_155, aILoad, aRLoad, aLLoad, aIStore, aRStore, aPush, aBin, aBinL, aShL, aUn, aIf, aIc, aGet, aPut, aIald, aBald, aAald, aIast, aBast, aAast, aAlen, aCopy, aCallV, aCallC, aCallI, aRet, aCat, aMax, aMin, aDiv, aRem, aI2l, aL2i, aNul, aSwS, aSw, aInc, aDup, aDup2, aPop1, aIret, aAret, aVret, aLen, aFk, aFT, Value.category, m_sh, m_p, h1, r_of ht, h2.a, hown, sPull]
  · obtain ⟨I2, h3, h4⟩ := r_guardOf (d := d + 2) (x := x) (y := y) (I := I1) (s := s) ht (by rw [h2.a]; exact hT.2)
    refine ⟨I2, ?_, h2.trans h4⟩
    rw [h2.a] at h3
    simp [s_155, aILoad, aRLoad, aLLoad, aIStore, aRStore, aPush, aBin, aBinL, aShL, aUn, aIf, aIc, aGet, aPut, aIald, aBald, aAald, aIast, aBast, aAast, aAlen, aCopy, aCallV, aCallC, aCallI, aRet, aCat, aMax, aMin, aDiv, aRem, aI2l, aL2i, aNul, aSwS, aSw, aInc, aDup, aDup2, aPop1, aIret, aAret, aVret, aLen, aFk, aFT, Value.category, m_sh, m_p, h1, r_of ht, h2.a, hown, h3, sPull]
theorem r_canGo {t : Nat} (ht : t < 10) : aCall aMt (d + 3) 156 [.ref 113, .int (nI t)] (HH I x y) = some (some (.int (if sCan (I 114) t then 1 else 0)), HH I x y) := by
  rw [e_156]
  have b4 : 50 + 7 * t + 4 = 54 + 7 * t := by omega
  by_cases h1 : I 114 (55 + 7 * t) = 1
  · by_cases h2 : I 114 (54 + 7 * t) = 0 <;> simp [s_156, aILoad, aRLoad, aLLoad, aIStore, aRStore, aPush, aBin, aBinL, aShL, aUn, aIf, aIc, aGet, aPut, aIald, aBald, aAald, aIast, aBast, aAast, aAlen, aCopy, aCallV, aCallC, aCallI, aRet, aCat, aMax, aMin, aDiv, aRem, aI2l, aL2i, aNul, aSwS, aSw, aInc, aDup, aDup2, aPop1, aIret, aAret, aVret, aLen, aFk, aFT, Value.category, m_sh, r_isThere ht, r_of ht, h1, h2, sCan, sTh, b4]
  · simp [s_156, aILoad, aRLoad, aLLoad, aIStore, aRStore, aPush, aBin, aBinL, aShL, aUn, aIf, aIc, aGet, aPut, aIald, aBald, aAald, aIast, aBast, aAast, aAlen, aCopy, aCallV, aCallC, aCallI, aRet, aCat, aMax, aMin, aDiv, aRem, aI2l, aL2i, aNul, aSwS, aSw, aInc, aDup, aDup2, aPop1, aIret, aAret, aVret, aLen, aFk, aFT, Value.category, m_sh, r_isThere ht, r_of ht, h1, sCan, sTh, b4]
theorem r_wanted_loop {p T : Nat} {s : Int32} {I0 : Nat → Nat → Int32} (hp : p < 8) (hT : T ≤ 10) (h8 : I0 114 8 = nI T) (hok : okT (I0 114)) : ∀ k t (I : Nat → Nat → Int32) (l6 : Option Value), t + k = T → RF I0 I →
    ∃ I1, aGo (aCall aMt (d + 7)) none cd_157 0 8 [some (.ref 113), some (.int (nI p)), some (.int s), some (.int (sBest (I0 114) p s t).1), some (.int (sBest (I0 114) p s t).2), some (.int (nI t)), l6] [] (HH I x y) = some (some (.int (sBest (I0 114) p s T).1), HH I1 x y) ∧ RF I0 I1 := by
  intro k
  induction k with
  | zero =>
    intro t I l6 ht hI
    obtain rfl : t = T := by omega
    refine ⟨I, ?_, hI⟩
    rw [s_157_8]
    simp [s_157, aILoad, aRLoad, aLLoad, aIStore, aRStore, aPush, aBin, aBinL, aShL, aUn, aIf, aIc, aGet, aPut, aIald, aBald, aAald, aIast, aBast, aAast, aAlen, aCopy, aCallV, aCallC, aCallI, aRet, aCat, aMax, aMin, aDiv, aRem, aI2l, aL2i, aNul, aSwS, aSw, aInc, aDup, aDup2, aPop1, aIret, aAret, aVret, aLen, aFk, aFT, Value.category, m_sh, m_p, hI.a, h8]
  | succ k ih =>
    intro t I l6 ht hI
    have h1 : ¬ nI T ≤ nI t := nI_ge (by omega) (by omega)
    have hc := r_canGo (d := d + 4) (I := I) (x := x) (y := y) (t := t) (by omega)
    rw [hI.a] at hc
    rw [s_157_8]
    by_cases hcan : sCan (I0 114) t = true
    · obtain ⟨I2, h3, h4⟩ := r_drawn (d := d) (I := I) (x := x) (y := y) (s := s) (p := p) (t := t) hp (by omega) (by rw [hI.a]; exact hok)
      rw [hI.a] at h3
      have g := fun l6 => ih (t + 1) I2 l6 (by omega) (hI.trans h4)
      rw [sBest] at g
      simp only [hcan, if_true] at g hc
      by_cases hlt : (sBest (I0 114) p s t).2 < sPull (I0 114) p t s
      · simp only [hlt, if_true] at g
        simpa [s_157, aILoad, aRLoad, aLLoad, aIStore, aRStore, aPush, aBin, aBinL, aShL, aUn, aIf, aIc, aGet, aPut, aIald, aBald, aAald, aIast, aBast, aAast, aAlen, aCopy, aCallV, aCallC, aCallI, aRet, aCat, aMax, aMin, aDiv, aRem, aI2l, aL2i, aNul, aSwS, aSw, aInc, aDup, aDup2, aPop1, aIret, aAret, aVret, aLen, aFk, aFT, Value.category, m_sh, m_p, hI.a, h8, h1, hc, h3, hlt, Int32.not_le.mpr hlt, nI_1] using g (some (.int (sPull (I0 114) p t s)))
      · simp only [hlt, if_false] at g
        simpa [s_157, aILoad, aRLoad, aLLoad, aIStore, aRStore, aPush, aBin, aBinL, aShL, aUn, aIf, aIc, aGet, aPut, aIald, aBald, aAald, aIast, aBast, aAast, aAlen, aCopy, aCallV, aCallC, aCallI, aRet, aCat, aMax, aMin, aDiv, aRem, aI2l, aL2i, aNul, aSwS, aSw, aInc, aDup, aDup2, aPop1, aIret, aAret, aVret, aLen, aFk, aFT, Value.category, m_sh, m_p, hI.a, h8, h1, hc, h3, hlt, Int32.not_lt.mp hlt, nI_1] using g (some (.int (sPull (I0 114) p t s)))
    · have g := fun l6 => ih (t + 1) I l6 (by omega) hI
      rw [sBest] at g
      simp only [hcan, if_false, Bool.false_eq_true] at g hc
      by_cases hlt : (sBest (I0 114) p s t).2 < 0
      · simp only [hlt, if_true] at g
        simpa [s_157, aILoad, aRLoad, aLLoad, aIStore, aRStore, aPush, aBin, aBinL, aShL, aUn, aIf, aIc, aGet, aPut, aIald, aBald, aAald, aIast, aBast, aAast, aAlen, aCopy, aCallV, aCallC, aCallI, aRet, aCat, aMax, aMin, aDiv, aRem, aI2l, aL2i, aNul, aSwS, aSw, aInc, aDup, aDup2, aPop1, aIret, aAret, aVret, aLen, aFk, aFT, Value.category, m_sh, m_p, hI.a, h8, h1, hc, hlt, Int32.not_le.mpr hlt, nI_1] using g (some (.int 0))
      · simp only [hlt, if_false] at g
        simpa [s_157, aILoad, aRLoad, aLLoad, aIStore, aRStore, aPush, aBin, aBinL, aShL, aUn, aIf, aIc, aGet, aPut, aIald, aBald, aAald, aIast, aBast, aAast, aAlen, aCopy, aCallV, aCallC, aCallI, aRet, aCat, aMax, aMin, aDiv, aRem, aI2l, aL2i, aNul, aSwS, aSw, aInc, aDup, aDup2, aPop1, aIret, aAret, aVret, aLen, aFk, aFT, Value.category, m_sh, m_p, hI.a, h8, h1, hc, hlt, Int32.not_lt.mp hlt, nI_1] using g (some (.int 0))
theorem r_wanted {p T : Nat} {s : Int32} (hp : p < 8) (hT : T ≤ 10) (h8 : I 114 8 = nI T) (hok : okT (I 114)) : ∃ I1, aCall aMt (d + 8) 157 [.ref 113, .int (nI p), .int s] (HH I x y) = some (some (.int (sWant (I 114) p s)), HH I1 x y) ∧ RF I I1 := by
  obtain ⟨I1, h1, h2⟩ := r_wanted_loop (d := d) (x := x) (y := y) (s := s) hp hT h8 hok T 0 I none (by omega) RF.rf
  refine ⟨I1, ?_, h2⟩
  rw [e_157]
  have e : sWant (I 114) p s = (sBest (I 114) p s T).1 := by unfold sWant; rw [h8, toNat_nI (by omega)]
  rw [e, ← h1]
  simp [s_157, aILoad, aRLoad, aLLoad, aIStore, aRStore, aPush, aBin, aBinL, aShL, aUn, aIf, aIc, aGet, aPut, aIald, aBald, aAald, aIast, aBast, aAast, aAlen, aCopy, aCallV, aCallC, aCallI, aRet, aCat, aMax, aMin, aDiv, aRem, aI2l, aL2i, aNul, aSwS, aSw, aInc, aDup, aDup2, aPop1, aIret, aAret, aVret, aLen, aFk, aFT, Value.category, sBest, nI_lit0]
theorem sBest_c (σ : Nat → Int32) (p : Nat) (s : Int32) : ∀ T, (sBest σ p s T).1 = -1 ∨ ∃ t, t < T ∧ (sBest σ p s T).1 = nI t
  | 0 => Or.inl rfl
  | T + 1 => by
    by_cases hlt : (sBest σ p s T).2 < (if sCan σ T then sPull σ p T s else 0)
    · have e : (sBest σ p s (T + 1)).1 = nI T := by rw [sBest]; simp only [if_pos hlt]
      exact Or.inr ⟨T, by omega, e⟩
    · have e : (sBest σ p s (T + 1)).1 = (sBest σ p s T).1 := by rw [sBest]; simp only [if_neg hlt]
      rw [e]
      rcases sBest_c σ p s T with h | ⟨t, h1, h2⟩
      · exact Or.inl h
      · exact Or.inr ⟨t, by omega, h2⟩
theorem sWant_c {σ : Nat → Int32} {p T : Nat} {s : Int32} (h8 : σ 8 = nI T) (hT : T ≤ 10) : sWant σ p s = -1 ∨ ∃ t, t < T ∧ sWant σ p s = nI t := by
  unfold sWant; rw [h8, toNat_nI (by omega)]; exact sBest_c σ p s T
def sMore (σ : Nat → Int32) (k : Nat) (n : Int32) : Nat → Int32 := upd σ k (sHeld (σ k + n) 0 9999)
theorem r_more {k : Nat} {n : Int32} (hk : k < 454) : aCall aMt (d + 2) 158 [.ref 113, .int (nI k), .int n] (HH I x y) = some (none, HH (aUpd I 114 k (sHeld (I 114 k + n) 0 9999)) x y) := by
  rw [e_158]
  simp [s_158, aILoad, aRLoad, aLLoad, aIStore, aRStore, aPush, aBin, aBinL, aShL, aUn, aIf, aIc, aGet, aPut, aIald, aBald, aAald, aIast, aBast, aAast, aAlen, aCopy, aCallV, aCallC, aCallI, aRet, aCat, aMax, aMin, aDiv, aRem, aI2l, aL2i, aNul, aSwS, aSw, aInc, aDup, aDup2, aPop1, aIret, aAret, aVret, aLen, aFk, aFT, Value.category, m_sh, m_p, hk, nI_pos' (n := k) (by omega), toNat_nI (show k < 2 ^ 31 by omega), r_held, sHeld]
def sTaken (σ : Nat → Int32) (p t : Nat) : Nat → Int32 :=
  let σ1 := upd (upd σ (55 + 7 * t) 0) (56 + 7 * t) (nI p)
  if σ (10 + 5 * p) = 6 then sMore σ1 3 1 else
    let σ2 := upd σ1 (12 + 5 * p) 0
    if σ (50 + 7 * t) = nI p then sMore σ2 2 1 else
      let σ3 := sMore σ2 1 1
      let q := (σ (50 + 7 * t)).toNatClampNeg
      upd σ3 (13 + 5 * q) (sHeld (σ3 (13 + 5 * q) + 1) 0 9)
def sComes (σ : Nat → Int32) (p : Nat) (s : Int32) : Int32 × (Nat → Int32) := if sWant σ p s = -1 then (-1, σ) else (sWant σ p s, sTaken σ p (sWant σ p s).toNatClampNeg)
theorem r_comes {p T : Nat} {s : Int32} (hp : p < 8) (hT : T ≤ 10) (h8 : I 114 8 = nI T) (hok : okT (I 114)) (hown : ∀ t, t < T → ∃ q, q < 8 ∧ I 114 (50 + 7 * t) = nI q) : ∃ I1, aCall aMt (d + 9) 159 [.ref 113, .int (nI p), .int s] (HH I x y) = some (some (.int (sComes (I 114) p s).1), HH I1 x y) ∧ I1 114 = (sComes (I 114) p s).2 ∧ RG I I1 := by
  obtain ⟨I1, h1, h2⟩ := r_wanted (d := d) (x := x) (y := y) (s := s) hp hT h8 hok
  have e1 := h2.a
  rw [e_159]
  unfold sComes
  rcases sWant_c (σ := I 114) (p := p) (s := s) h8 hT with hw | ⟨t, ht, hw⟩
  · refine ⟨I1, ?_, by rw [if_pos hw]; exact e1, h2.g⟩
    rw [hw] at h1
    simp [s_159, aILoad, aRLoad, aLLoad, aIStore, aRStore, aPush, aBin, aBinL, aShL, aUn, aIf, aIc, aGet, aPut, aIald, aBald, aAald, aIast, aBast, aAast, aAlen, aCopy, aCallV, aCallC, aCallI, aRet, aCat, aMax, aMin, aDiv, aRem, aI2l, aL2i, aNul, aSwS, aSw, aInc, aDup, aDup2, aPop1, aIret, aAret, aVret, aLen, aFk, aFT, Value.category, m_sh, h1, hw]
  · obtain ⟨q, hq, ho⟩ := hown t ht
    have ht' : t < 10 := by omega
    have hne : ¬ nI t = -1 := fun z => absurd z (by
      intro z
      have := congrArg Int32.toInt z
      rw [nI_toInt (by omega)] at this
      have h3 : (-1 : Int32).toInt = -1 := rfl
      omega)
    rw [hw] at h1 ⊢
    rw [if_neg hne, toNat_nI (by omega)]
    have b0 : 50 + 7 * t + 0 = 50 + 7 * t := by omega
    have b5 : 50 + 7 * t + 5 = 55 + 7 * t := by omega
    have b6 : 50 + 7 * t + 6 = 56 + 7 * t := by omega
    have a2 : 10 + 5 * p + 2 = 12 + 5 * p := by omega
    have a3 : 10 + 5 * q + 3 = 13 + 5 * q := by omega
    have n1 : ¬ (10 + 5 * p = 56 + 7 * t) := by omega
    have n2 : ¬ (10 + 5 * p = 55 + 7 * t) := by omega
    have q1 : ¬ (13 + 5 * q = 12 + 5 * p) := by omega
    have hm1 := fun (d : Nat) (I : Nat → Nat → Int32) => r_more (d := d) (I := I) (x := x) (y := y) (k := 1) (n := 1) (by omega)
    have hm2 := fun (d : Nat) (I : Nat → Nat → Int32) => r_more (d := d) (I := I) (x := x) (y := y) (k := 2) (n := 1) (by omega)
    have hm3 := fun (d : Nat) (I : Nat → Nat → Int32) => r_more (d := d) (I := I) (x := x) (y := y) (k := 3) (n := 1) (by omega)
    rw [show nI 1 = (1 : Int32) from rfl] at hm1
    rw [show nI 2 = (2 : Int32) from rfl] at hm2
    rw [show nI 3 = (3 : Int32) from rfl] at hm3
    have ew : ∀ k v w, aUpd (aUpd I1 114 k v) 114 w = aUpd (aUpd I1 114 k v) 114 w := fun _ _ _ => rfl
    have n3 : ¬ (3 = 56 + 7 * t) := by omega
    have n4 : ¬ (3 = 55 + 7 * t) := by omega
    have n5 : ¬ (2 = 56 + 7 * t) := by omega
    have n6 : ¬ (2 = 55 + 7 * t) := by omega
    have n7 : ¬ (2 = 12 + 5 * p) := by omega
    have n8 : ¬ (1 = 56 + 7 * t) := by omega
    have n9 : ¬ (1 = 55 + 7 * t) := by omega
    have n10 : ¬ (1 = 12 + 5 * p) := by omega
    have n11 : ¬ (13 + 5 * q = 1) := by omega
    have n12 : ¬ (13 + 5 * q = 12 + 5 * p) := by omega
    have n13 : ¬ (13 + 5 * q = 56 + 7 * t) := by omega
    have n14 : ¬ (13 + 5 * q = 55 + 7 * t) := by omega
    have u1 : ∀ k v w, k < 4 → upd (upd (I 114) (55 + 7 * t) v) (56 + 7 * t) w k = I 114 k := fun k v w hk => by rw [upd_ne (by omega), upd_ne (by omega)]
    by_cases k6 : I 114 (10 + 5 * p) = 6
    · refine ⟨aUpd (aUpd (aUpd I1 114 (55 + 7 * t) 0) 114 (56 + 7 * t) (nI p)) 114 3 (sHeld (I 114 3 + 1) 0 9999), ?_, ?_, ((h2.g.upd).upd).upd⟩
      · simp [s_159, aILoad, aRLoad, aLLoad, aIStore, aRStore, aPush, aBin, aBinL, aShL, aUn, aIf, aIc, aGet, aPut, aIald, aBald, aAald, aIast, aBast, aAast, aAlen, aCopy, aCallV, aCallC, aCallI, aRet, aCat, aMax, aMin, aDiv, aRem, aI2l, aL2i, aNul, aSwS, aSw, aInc, aDup, aDup2, aPop1, aIret, aAret, aVret, aLen, aFk, aFT, Value.category, m_sh, h1, hne, r_of ht', r_lays2 ht', r_its hp, b5, b6, e1, aUpd_row, upd, n1, n2, n3, n4, n5, n6, n7, n8, n9, n10, n11, n12, n13, n14, k6, hm3]
      · simp only [aUpd_row, sTaken, if_pos k6, sMore, e1, u1 3 _ _ (by omega)]
    · by_cases ho2 : I 114 (50 + 7 * t) = nI p
      · refine ⟨aUpd (aUpd (aUpd (aUpd I1 114 (55 + 7 * t) 0) 114 (56 + 7 * t) (nI p)) 114 (12 + 5 * p) 0) 114 2 (sHeld (I 114 2 + 1) 0 9999), ?_, ?_, (((h2.g.upd).upd).upd).upd⟩
        · simp [s_159, aILoad, aRLoad, aLLoad, aIStore, aRStore, aPush, aBin, aBinL, aShL, aUn, aIf, aIc, aGet, aPut, aIald, aBald, aAald, aIast, aBast, aAast, aAlen, aCopy, aCallV, aCallC, aCallI, aRet, aCat, aMax, aMin, aDiv, aRem, aI2l, aL2i, aNul, aSwS, aSw, aInc, aDup, aDup2, aPop1, aIret, aAret, aVret, aLen, aFk, aFT, Value.category, m_sh, h1, hne, r_of ht', r_lays2 ht', r_its hp, r_lays1 hp, b5, b6, a2, e1, aUpd_row, upd, n1, n2, n3, n4, n5, n6, n7, n8, n9, n10, n11, n12, n13, n14, k6, hm2, ho2]
        · simp only [aUpd_row, sTaken, if_neg k6, if_pos ho2, sMore, e1, upd_ne (show 2 ≠ 12 + 5 * p by omega), u1 2 _ _ (by omega)]
      · have ho3 : ¬ nI q = nI p := fun z => ho2 (ho.trans z)
        have w3 : ∀ v w z z2, upd (upd (upd (upd (I 114) (55 + 7 * t) v) (56 + 7 * t) w) (12 + 5 * p) z) 1 z2 (13 + 5 * q) = I 114 (13 + 5 * q) := fun v w z z2 => by rw [upd_ne (by omega), upd_ne (by omega), upd_ne (by omega), upd_ne (by omega)]
        refine ⟨aUpd (aUpd (aUpd (aUpd (aUpd I1 114 (55 + 7 * t) 0) 114 (56 + 7 * t) (nI p)) 114 (12 + 5 * p) 0) 114 1 (sHeld (I 114 1 + 1) 0 9999)) 114 (13 + 5 * q) (sHeld (I 114 (13 + 5 * q) + 1) 0 9), ?_, ?_, ((((h2.g.upd).upd).upd).upd).upd⟩
        · simp [s_159, aILoad, aRLoad, aLLoad, aIStore, aRStore, aPush, aBin, aBinL, aShL, aUn, aIf, aIc, aGet, aPut, aIald, aBald, aAald, aIast, aBast, aAast, aAlen, aCopy, aCallV, aCallC, aCallI, aRet, aCat, aMax, aMin, aDiv, aRem, aI2l, aL2i, aNul, aSwS, aSw, aInc, aDup, aDup2, aPop1, aIret, aAret, aVret, aLen, aFk, aFT, Value.category, m_sh, h1, hne, r_of ht', r_lays2 ht', r_its hp, r_lays1 hp, r_its hq, r_lays1 hq, b5, b6, a2, a3, e1, aUpd_row, upd, n1, n2, n3, n4, n5, n6, n7, n8, n9, n10, n11, n12, n13, n14, k6, hm1, ho, ho3, r_held, sHeld]
        · simp only [aUpd_row, sTaken, if_neg k6, if_neg ho2, sMore, e1, upd_ne (show 1 ≠ 12 + 5 * p by omega), u1 1 _ _ (by omega)]
          rw [ho, toNat_nI (show q < 2 ^ 31 by omega), w3]
end REF7
