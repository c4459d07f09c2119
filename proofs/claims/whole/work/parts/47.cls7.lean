/-! the class: counting, who WANTS what, what is thrown out -/
def sWs (σ : Nat → Int32) (s v : Int32) (p : Nat) : Bool := decide (sWant σ p s = v)
def sThrow (σ : Nat → Int32) (a : Int32) : Nat → (Nat → Int32)
  | 0 => σ
  | t + 1 => if sTh σ t && decide (a ≤ σ (53 + 7 * t)) then upd (sThrow σ a t) (55 + 7 * t) 0 else sThrow σ a t
theorem sThrow_ne {σ : Nat → Int32} {a : Int32} {k : Nat} : ∀ {n : Nat}, (∀ t, t < n → k ≠ 55 + 7 * t) → sThrow σ a n k = σ k
  | 0, _ => rfl
  | n + 1, h => by
    rw [sThrow]; split
    · rw [upd_ne (h n (by omega)), sThrow_ne (fun t ht => h t (by omega))]
    · exact sThrow_ne (fun t ht => h t (by omega))
theorem wfS.throw {σ : Nat → Int32} {P T : Nat} {a : Int32} (h : wfS σ P T) (hP : P ≤ 8) (hT : T ≤ 10) : ∀ n, n ≤ T → wfS (sThrow σ a n) P T
  | 0, _ => h
  | n + 1, hn => by
    rw [sThrow]; split
    · exact (wfS.throw h hP hT n (by omega)).set (fun q _ z => by omega) (fun q _ z => by omega) (fun q _ z => by omega) (fun q _ z => by omega) (fun q _ z => by omega) (fun q _ z => Or.inl rfl) (fun q _ z => by omega) (by omega) (fun _ _ => by omega)
    · exact wfS.throw h hP hT n (by omega)
theorem upd_self {f : Nat → Int32} {k : Nat} {v : Int32} (h : f k = v) : upd f k v = f := by
  funext j; unfold upd; split
  · next e => rw [e, h]
  · rfl
section CLS7
variable {d f P T : Nat} {I : Nat → Nat → Int32} {σ : Nat → Int32} {x y : Option Nat}
theorem k_inside_loop (hf : isF f) (h : relF f I σ P T) (hw : wfTh σ T) : ∀ k t, t + k = T → aGo (aCall aMt d) none cd_5 0 4 [some (.ref f), some (.int (nI (cnt (sTh σ) t))), some (.int (nI t))] [] (HH I x y) = some (some (.int (nI (cnt (sTh σ) T))), HH I x y) := by
  have hP := h.1
  intro k
  induction k with
  | zero =>
    intro t ht
    obtain rfl : t = T := by omega
    rw [s_5_4]
    simp [s_5, aILoad, aRLoad, aLLoad, aIStore, aRStore, aPush, aBin, aBinL, aShL, aUn, aIf, aIc, aGet, aPut, aIald, aBald, aAald, aIast, aBast, aAast, aAlen, aCopy, aCallV, aCallC, aCallI, aRet, aCat, aMax, aMin, aDiv, aRem, aI2l, aL2i, aNul, aSwS, aSw, aInc, aDup, aDup2, aPop1, aIret, aAret, aVret, aLen, aFk, aFT, Value.category, f_sh hf, h.fi]
  | succ k ih =>
    intro t ht
    have h1 : ¬ nI T ≤ nI t := nI_ge (by omega) (by omega)
    have g := ih (t + 1) (by omega)
    rw [cnt] at g
    rw [s_5_4]
    rcases hw t (by omega) with hi | hi <;> simpa [s_5, aILoad, aRLoad, aLLoad, aIStore, aRStore, aPush, aBin, aBinL, aShL, aUn, aIf, aIc, aGet, aPut, aIald, aBald, aAald, aIast, aBast, aAast, aAlen, aCopy, aCallV, aCallC, aCallI, aRet, aCat, aMax, aMin, aDiv, aRem, aI2l, aL2i, aNul, aSwS, aSw, aInc, aDup, aDup2, aPop1, aIret, aAret, aVret, aLen, aFk, aFT, Value.category, f_sh hf, f_p hf, f_tp hf (show t < 10 by omega), f_th hf (show t < 10 by omega), h.fi, h1, h.th (show t < T by omega), hi, sTh, nI_1, toNat_nI (show t < 2 ^ 31 by omega), nI_lt0 (show t < 2 ^ 31 by omega), show ¬ 10 ≤ t by omega] using g
theorem k_inside (hf : isF f) (h : relF f I σ P T) (hw : wfTh σ T) : aCall aMt (d + 1) 5 [.ref f] (HH I x y) = some (some (.int (nI (cnt (sTh σ) T))), HH I x y) := by
  have g := k_inside_loop (d := d) (x := x) (y := y) hf h hw T 0 (by omega)
  rw [cnt, nI_lit0] at g
  rw [e_5]
  simpa [s_5, aILoad, aRLoad, aLLoad, aIStore, aRStore, aPush, aBin, aBinL, aShL, aUn, aIf, aIc, aGet, aPut, aIald, aBald, aAald, aIast, aBast, aAast, aAlen, aCopy, aCallV, aCallC, aCallI, aRet, aCat, aMax, aMin, aDiv, aRem, aI2l, aL2i, aNul, aSwS, aSw, aInc, aDup, aDup2, aPop1, aIret, aAret, aVret, aLen, aFk, aFT, Value.category] using g
theorem k_insideOf_loop {p : Nat} (hf : isF f) (h : relF f I σ P T) (hw : wfTh σ T) (hp : p < P) : ∀ k t, t + k = T → aGo (aCall aMt (d + 1)) none cd_6 0 4 [some (.ref f), some (.ref (f + 13 + p)), some (.int (nI (cnt (sHis σ p) t))), some (.int (nI t))] [] (HH I x y) = some (some (.int (nI (cnt (sHis σ p) T))), HH I x y) := by
  have hP := h.1
  intro k
  induction k with
  | zero =>
    intro t ht
    obtain rfl : t = T := by omega
    rw [s_6_4]
    simp [s_6, aILoad, aRLoad, aLLoad, aIStore, aRStore, aPush, aBin, aBinL, aShL, aUn, aIf, aIc, aGet, aPut, aIald, aBald, aAald, aIast, aBast, aAast, aAlen, aCopy, aCallV, aCallC, aCallI, aRet, aCat, aMax, aMin, aDiv, aRem, aI2l, aL2i, aNul, aSwS, aSw, aInc, aDup, aDup2, aPop1, aIret, aAret, aVret, aLen, aFk, aFT, Value.category, f_sh hf, h.fi]
  | succ k ih =>
    intro t ht
    have h1 : ¬ nI T ≤ nI t := nI_ge (by omega) (by omega)
    have g := ih (t + 1) (by omega)
    have ho := k_owns (d := d) (x := x) (y := y) hf h hp (show t < T by omega)
    rw [cnt] at g
    rw [s_6_4]
    rcases hw t (by omega) with hi | hi
    · simpa [s_6, aILoad, aRLoad, aLLoad, aIStore, aRStore, aPush, aBin, aBinL, aShL, aUn, aIf, aIc, aGet, aPut, aIald, aBald, aAald, aIast, aBast, aAast, aAlen, aCopy, aCallV, aCallC, aCallI, aRet, aCat, aMax, aMin, aDiv, aRem, aI2l, aL2i, aNul, aSwS, aSw, aInc, aDup, aDup2, aPop1, aIret, aAret, aVret, aLen, aFk, aFT, Value.category, f_sh hf, f_p hf, f_tp hf (show t < 10 by omega), f_th hf (show t < 10 by omega), h.fi, h1, h.th (show t < T by omega), hi, sHis, sTh, nI_1, toNat_nI (show t < 2 ^ 31 by omega), nI_lt0 (show t < 2 ^ 31 by omega), show ¬ 10 ≤ t by omega] using g
    · by_cases hown : σ (50 + 7 * t) = nI p
      · simp only [hown, if_true] at ho
        simpa [s_6, aILoad, aRLoad, aLLoad, aIStore, aRStore, aPush, aBin, aBinL, aShL, aUn, aIf, aIc, aGet, aPut, aIald, aBald, aAald, aIast, aBast, aAast, aAlen, aCopy, aCallV, aCallC, aCallI, aRet, aCat, aMax, aMin, aDiv, aRem, aI2l, aL2i, aNul, aSwS, aSw, aInc, aDup, aDup2, aPop1, aIret, aAret, aVret, aLen, aFk, aFT, Value.category, f_sh hf, f_p hf, f_pe hf (show p < 8 by omega), f_tp hf (show t < 10 by omega), f_th hf (show t < 10 by omega), h.fi, h1, h.th (show t < T by omega), hi, ho, hown, sHis, sTh, nI_1, toNat_nI (show t < 2 ^ 31 by omega), nI_lt0 (show t < 2 ^ 31 by omega), show ¬ 10 ≤ t by omega] using g
      · simp only [hown, if_false] at ho
        simpa [s_6, aILoad, aRLoad, aLLoad, aIStore, aRStore, aPush, aBin, aBinL, aShL, aUn, aIf, aIc, aGet, aPut, aIald, aBald, aAald, aIast, aBast, aAast, aAlen, aCopy, aCallV, aCallC, aCallI, aRet, aCat, aMax, aMin, aDiv, aRem, aI2l, aL2i, aNul, aSwS, aSw, aInc, aDup, aDup2, aPop1, aIret, aAret, aVret, aLen, aFk, aFT, Value.category, f_sh hf, f_p hf, f_pe hf (show p < 8 by omega), f_tp hf (show t < 10 by omega), f_th hf (show t < 10 by omega), h.fi, h1, h.th (show t < T by omega), hi, ho, hown, sHis, sTh, nI_1, toNat_nI (show t < 2 ^ 31 by omega), nI_lt0 (show t < 2 ^ 31 by omega), show ¬ 10 ≤ t by omega] using g
theorem k_insideOf {p : Nat} (hf : isF f) (h : relF f I σ P T) (hw : wfTh σ T) (hp : p < P) : aCall aMt (d + 2) 6 [.ref f, .ref (f + 13 + p)] (HH I x y) = some (some (.int (nI (cnt (sHis σ p) T))), HH I x y) := by
  have g := k_insideOf_loop (d := d) (x := x) (y := y) hf h hw hp T 0 (by omega)
  rw [cnt, nI_lit0] at g
  rw [e_6]
  simpa [s_6, aILoad, aRLoad, aLLoad, aIStore, aRStore, aPush, aBin, aBinL, aShL, aUn, aIf, aIc, aGet, aPut, aIald, aBald, aAald, aIast, aBast, aAast, aAlen, aCopy, aCallV, aCallC, aCallI, aRet, aCat, aMax, aMin, aDiv, aRem, aI2l, aL2i, aNul, aSwS, aSw, aInc, aDup, aDup2, aPop1, aIret, aAret, aVret, aLen, aFk, aFT, Value.category] using g
theorem k_wanters_loop {v s : Int32} {I0 : Nat → Nat → Int32} (hf : isF f) (h : relF f I0 σ P T) (hT : okT σ) (hw : wfTh σ T) : ∀ k p (I : Nat → Nat → Int32), p + k = P → KF f I0 I →
    ∃ I1, aGo (aCall aMt (d + 5)) none cd_10 0 5 [some (.ref f), some (.int v), some (.int s), some (.int (nI (bS (sWs σ s v) p))), some (.int (nI p))] [] (HH I x y) = some (some (.int (nI (bS (sWs σ s v) P))), HH I1 x y) ∧ KF f I0 I1 := by
  have hP := h.1
  intro k
  induction k with
  | zero =>
    intro p I hp hk
    obtain rfl : p = P := by omega
    refine ⟨I, ?_, hk⟩
    rw [s_10_5]
    simp [s_10, aILoad, aRLoad, aLLoad, aIStore, aRStore, aPush, aBin, aBinL, aShL, aUn, aIf, aIc, aGet, aPut, aIald, aBald, aAald, aIast, aBast, aAast, aAlen, aCopy, aCallV, aCallC, aCallI, aRet, aCat, aMax, aMin, aDiv, aRem, aI2l, aL2i, aNul, aSwS, aSw, aInc, aDup, aDup2, aPop1, aIret, aAret, aVret, aLen, aFk, aFT, Value.category, f_sh hf, (h.kf hk).fi]
  | succ k ih =>
    intro p I hp hk
    have g := h.kf hk
    have h1 : ¬ nI P ≤ nI p := nI_ge (by omega) (by omega)
    obtain ⟨I2, h3, h4⟩ := k_wanted (d := d) (x := x) (y := y) (s := s) hf g (show p < P by omega) hT hw
    obtain ⟨I1, g1, g2⟩ := ih (p + 1) I2 (by omega) (hk.trans h4)
    refine ⟨I1, ?_, g2⟩
    rw [← g1, s_10_5]
    by_cases hc : sWant σ p s = v
    · have e : bS (sWs σ s v) (p + 1) = bS (sWs σ s v) p + 2 ^ p := by rw [bS, sWs, hc, if_pos (by simp)]
      rw [e, ← or_bit (show p < 16 by omega) (bS_lt _ p)]
      simp [s_10, aILoad, aRLoad, aLLoad, aIStore, aRStore, aPush, aBin, aBinL, aShL, aUn, aIf, aIc, aGet, aPut, aIald, aBald, aAald, aIast, aBast, aAast, aAlen, aCopy, aCallV, aCallC, aCallI, aRet, aCat, aMax, aMin, aDiv, aRem, aI2l, aL2i, aNul, aSwS, aSw, aInc, aDup, aDup2, aPop1, aIret, aAret, aVret, aLen, aFk, aFT, Value.category, f_sh hf, f_p hf, f_pp hf (show p < 8 by omega), f_pe hf (show p < 8 by omega), g.fi, h1, h3, hc, nI_1, toNat_nI (show p < 2 ^ 31 by omega), nI_lt0 (show p < 2 ^ 31 by omega), show ¬ 8 ≤ p by omega]
    · have e : bS (sWs σ s v) (p + 1) = bS (sWs σ s v) p := by rw [bS, sWs, if_neg (by simpa using hc)]; rfl
      rw [e]
      simp [s_10, aILoad, aRLoad, aLLoad, aIStore, aRStore, aPush, aBin, aBinL, aShL, aUn, aIf, aIc, aGet, aPut, aIald, aBald, aAald, aIast, aBast, aAast, aAlen, aCopy, aCallV, aCallC, aCallI, aRet, aCat, aMax, aMin, aDiv, aRem, aI2l, aL2i, aNul, aSwS, aSw, aInc, aDup, aDup2, aPop1, aIret, aAret, aVret, aLen, aFk, aFT, Value.category, f_sh hf, f_p hf, f_pp hf (show p < 8 by omega), f_pe hf (show p < 8 by omega), g.fi, h1, h3, hc, nI_1, toNat_nI (show p < 2 ^ 31 by omega), nI_lt0 (show p < 2 ^ 31 by omega), show ¬ 8 ≤ p by omega]
theorem k_wanters {v s : Int32} (hf : isF f) (h : relF f I σ P T) (hT : okT σ) (hw : wfTh σ T) : ∃ I1, aCall aMt (d + 6) 10 [.ref f, .int v, .int s] (HH I x y) = some (some (.int (nI (bS (sWs σ s v) P))), HH I1 x y) ∧ KF f I I1 := by
  obtain ⟨I1, g1, g2⟩ := k_wanters_loop (d := d) (x := x) (y := y) (v := v) (s := s) hf h hT hw P 0 I (by omega) KF.rf
  refine ⟨I1, ?_, g2⟩
  rw [e_10, ← g1]
  simp [s_10, aILoad, aRLoad, aLLoad, aIStore, aRStore, aPush, aBin, aBinL, aShL, aUn, aIf, aIc, aGet, aPut, aIald, aBald, aAald, aIast, aBast, aAast, aAlen, aCopy, aCallV, aCallC, aCallI, aRet, aCat, aMax, aMin, aDiv, aRem, aI2l, aL2i, aNul, aSwS, aSw, aInc, aDup, aDup2, aPop1, aIret, aAret, aVret, aLen, aFk, aFT, Value.category, bS, nI_lit0]
def sRobs (σ : Nat → Int32) (p : Nat) : Int32 := if sWant σ p 0 = -1 then -1 else if σ (50 + 7 * (sWant σ p 0).toNatClampNeg) = nI p then -1 else σ (50 + 7 * (sWant σ p 0).toNatClampNeg)
theorem k_robbed {p : Nat} (hf : isF f) (h : relF f I σ P T) (hT : okT σ) (hw : wfTh σ T) (hp : p < P) : ∃ I1, aCall aMt (d + 6) 11 [.ref f, .int (nI p)] (HH I x y) = some (some (.int (sRobs σ p)), HH I1 x y) ∧ KF f I I1 := by
  have hP := h.1
  have pa := k_personAt (d := d + 3) (x := x) (y := y) hf h hp
  obtain ⟨I1, h1, h2⟩ := k_wanted (d := d) (x := x) (y := y) (s := 0) hf h hp hT hw
  have g1 := h.kf h2
  rw [e_11]
  unfold sRobs
  rcases sWant_c (σ := σ) (p := p) (s := 0) h.fi.2.2.2.1 hP.2 with hc | ⟨t, ht, hc⟩
  · refine ⟨I1, ?_, h2⟩
    rw [hc] at h1
    have hn := k_thingNo (d := d + 3) (v := -1) (x := x) (y := y) hf g1 (fun z => absurd z.1 (by decide))
    simp [s_11, aILoad, aRLoad, aLLoad, aIStore, aRStore, aPush, aBin, aBinL, aShL, aUn, aIf, aIc, aGet, aPut, aIald, aBald, aAald, aIast, aBast, aAast, aAlen, aCopy, aCallV, aCallC, aCallI, aRet, aCat, aMax, aMin, aDiv, aRem, aI2l, aL2i, aNul, aSwS, aSw, aInc, aDup, aDup2, aPop1, aIret, aAret, aVret, aLen, aFk, aFT, Value.category, f_sh hf, f_pe hf (show p < 8 by omega), pa, h1, hn, hc]
  · have hne : ¬ nI t = -1 := fun z => absurd (z ▸ nI_pos' (n := t) (by omega)) (by decide)
    rw [hc] at h1
    rw [hc, if_neg hne, toNat_nI (show t < 2 ^ 31 by omega)]
    have ha := k_thingAt (d := d + 3) (x := x) (y := y) hf g1 ht
    have ho := k_owns (d := d + 4) (x := x) (y := y) hf g1 hp ht
    refine ⟨I1, ?_, h2⟩
    by_cases own : σ (50 + 7 * t) = nI p
    · simp only [own, if_true] at ho
      simp [s_11, aILoad, aRLoad, aLLoad, aIStore, aRStore, aPush, aBin, aBinL, aShL, aUn, aIf, aIc, aGet, aPut, aIald, aBald, aAald, aIast, aBast, aAast, aAlen, aCopy, aCallV, aCallC, aCallI, aRet, aCat, aMax, aMin, aDiv, aRem, aI2l, aL2i, aNul, aSwS, aSw, aInc, aDup, aDup2, aPop1, aIret, aAret, aVret, aLen, aFk, aFT, Value.category, f_sh hf, f_pe hf (show p < 8 by omega), f_th hf (show t < 10 by omega), pa, h1, ha, ho, own]
    · simp only [own, if_false] at ho
      simp [s_11, aILoad, aRLoad, aLLoad, aIStore, aRStore, aPush, aBin, aBinL, aShL, aUn, aIf, aIc, aGet, aPut, aIald, aBald, aAald, aIast, aBast, aAast, aAlen, aCopy, aCallV, aCallC, aCallI, aRet, aCat, aMax, aMin, aDiv, aRem, aI2l, aL2i, aNul, aSwS, aSw, aInc, aDup, aDup2, aPop1, aIret, aAret, aVret, aLen, aFk, aFT, Value.category, f_sh hf, f_pe hf (show p < 8 by omega), f_th hf (show t < 10 by omega), pa, h1, ha, ho, own, g1.th ht]
/-- what one of the PEOPLE WANTS, not SEEN, is his own or nothing -/
def sNoRob (σ : Nat → Int32) (T q : Nat) : Prop := ∀ t, t < T → sWant σ q 0 = nI t → σ (50 + 7 * t) = nI q
theorem k_first_loop {I0 : Nat → Nat → Int32} (hf : isF f) (h : relF f I0 σ P T) (hT : okT σ) (hw : wfTh σ T) : ∀ k p (I : Nat → Nat → Int32) (l2 : Option Value), p + k = P → KF f I0 I → (∀ q, q < p → sNoRob σ T q) →
    ∃ I1 r, aGo (aCall aMt (d + 5)) none cd_12 0 2 [some (.ref f), some (.int (nI p)), l2] [] (HH I x y) = some (some (.int r), HH I1 x y) ∧ KF f I0 I1 ∧ ((r = -1 ∧ ∀ q, q < P → sNoRob σ T q) ∨ ∃ q t, q < P ∧ t < T ∧ r = nI t ∧ sWant σ q 0 = nI t ∧ ¬ σ (50 + 7 * t) = nI q) := by
  have hP := h.1
  have hneg : ∀ t, t < T → ¬ nI t = -1 := fun t ht z => absurd (z ▸ nI_pos' (n := t) (by omega)) (by decide)
  intro k
  induction k with
  | zero =>
    intro p I l2 hp hk hq
    obtain rfl : p = P := by omega
    refine ⟨I, -1, ?_, hk, Or.inl ⟨rfl, hq⟩⟩
    rw [s_12_2]
    simp [s_12, aILoad, aRLoad, aLLoad, aIStore, aRStore, aPush, aBin, aBinL, aShL, aUn, aIf, aIc, aGet, aPut, aIald, aBald, aAald, aIast, aBast, aAast, aAlen, aCopy, aCallV, aCallC, aCallI, aRet, aCat, aMax, aMin, aDiv, aRem, aI2l, aL2i, aNul, aSwS, aSw, aInc, aDup, aDup2, aPop1, aIret, aAret, aVret, aLen, aFk, aFT, Value.category, f_sh hf, (h.kf hk).fi]
  | succ k ih =>
    intro p I l2 hp hk hq
    have g := h.kf hk
    have h1 : ¬ nI P ≤ nI p := nI_ge (by omega) (by omega)
    obtain ⟨I2, h3, h4⟩ := k_wanted (d := d) (x := x) (y := y) (s := 0) hf g (show p < P by omega) hT hw
    have g2 := g.kf h4
    have hk2 := hk.trans h4
    have c1 := toNat_nI (show p < 2 ^ 31 by omega)
    have c2 := nI_lt0 (show p < 2 ^ 31 by omega)
    have c3 : ¬ 8 ≤ p := by omega
    rcases sWant_c (σ := σ) (p := p) (s := 0) h.fi.2.2.2.1 hP.2 with hc | ⟨t, ht, hc⟩
    · obtain ⟨I1, r, q1, q2, q3⟩ := ih (p + 1) I2 (some (.int (-1))) (by omega) hk2 (fun q hq2 => by
        by_cases e : q = p
        · subst e; intro t ht z; exact absurd (z.symm.trans hc) (hneg t ht)
        · exact hq q (by omega))
      refine ⟨I1, r, ?_, q2, q3⟩
      rw [hc] at h3
      rw [← q1, s_12_2]
      simp [s_12, aILoad, aRLoad, aLLoad, aIStore, aRStore, aPush, aBin, aBinL, aShL, aUn, aIf, aIc, aGet, aPut, aIald, aBald, aAald, aIast, aBast, aAast, aAlen, aCopy, aCallV, aCallC, aCallI, aRet, aCat, aMax, aMin, aDiv, aRem, aI2l, aL2i, aNul, aSwS, aSw, aInc, aDup, aDup2, aPop1, aIret, aAret, aVret, aLen, aFk, aFT, Value.category, f_sh hf, f_p hf, f_pp hf (show p < 8 by omega), f_pe hf (show p < 8 by omega), g.fi, h1, h3, nI_1, c1, c2, c3]
    · rw [hc] at h3
      have ho := k_owns (d := d + 4) (x := x) (y := y) hf g2 (show p < P by omega) ht
      have hn := hneg t ht
      by_cases own : σ (50 + 7 * t) = nI p
      · obtain ⟨I1, r, q1, q2, q3⟩ := ih (p + 1) I2 (some (.int (nI t))) (by omega) hk2 (fun q hq2 => by
          by_cases e : q = p
          · subst e; intro u hu z
            have e2 : u = t := (nI_eq (by omega) (by omega)).mp (z.symm.trans hc)
            subst e2; exact own
          · exact hq q (by omega))
        simp only [own, if_true] at ho
        refine ⟨I1, r, ?_, q2, q3⟩
        rw [← q1, s_12_2]
        simp [s_12, aILoad, aRLoad, aLLoad, aIStore, aRStore, aPush, aBin, aBinL, aShL, aUn, aIf, aIc, aGet, aPut, aIald, aBald, aAald, aIast, aBast, aAast, aAlen, aCopy, aCallV, aCallC, aCallI, aRet, aCat, aMax, aMin, aDiv, aRem, aI2l, aL2i, aNul, aSwS, aSw, aInc, aDup, aDup2, aPop1, aIret, aAret, aVret, aLen, aFk, aFT, Value.category, f_sh hf, f_p hf, f_pp hf (show p < 8 by omega), f_pe hf (show p < 8 by omega), f_tp hf (show t < 10 by omega), f_th hf (show t < 10 by omega), g.fi, h1, h3, nI_1, c1, c2, c3, hn, ho, toNat_nI (show t < 2 ^ 31 by omega), nI_lt0 (show t < 2 ^ 31 by omega), show ¬ 10 ≤ t by omega]
      · simp only [own, if_false] at ho
        refine ⟨I2, nI t, ?_, hk2, Or.inr ⟨p, t, by omega, ht, rfl, hc, own⟩⟩
        rw [s_12_2]
        simp [s_12, aILoad, aRLoad, aLLoad, aIStore, aRStore, aPush, aBin, aBinL, aShL, aUn, aIf, aIc, aGet, aPut, aIald, aBald, aAald, aIast, aBast, aAast, aAlen, aCopy, aCallV, aCallC, aCallI, aRet, aCat, aMax, aMin, aDiv, aRem, aI2l, aL2i, aNul, aSwS, aSw, aInc, aDup, aDup2, aPop1, aIret, aAret, aVret, aLen, aFk, aFT, Value.category, f_sh hf, f_p hf, f_pp hf (show p < 8 by omega), f_pe hf (show p < 8 by omega), f_tp hf (show t < 10 by omega), f_th hf (show t < 10 by omega), g.fi, h1, h3, nI_1, c1, c2, c3, hn, ho, toNat_nI (show t < 2 ^ 31 by omega), nI_lt0 (show t < 2 ^ 31 by omega), show ¬ 10 ≤ t by omega]
theorem k_first (hf : isF f) (h : relF f I σ P T) (hT : okT σ) (hw : wfTh σ T) : ∃ I1 r, aCall aMt (d + 6) 12 [.ref f] (HH I x y) = some (some (.int r), HH I1 x y) ∧ KF f I I1 ∧ ((r = -1 ∧ ∀ q, q < P → sNoRob σ T q) ∨ ∃ q t, q < P ∧ t < T ∧ r = nI t ∧ sWant σ q 0 = nI t ∧ ¬ σ (50 + 7 * t) = nI q) := by
  obtain ⟨I1, r, g1, g2, g3⟩ := k_first_loop (d := d) (x := x) (y := y) hf h hT hw P 0 I none (by omega) KF.rf (fun q hq => by omega)
  refine ⟨I1, r, ?_, g2, g3⟩
  rw [e_12, ← g1]
  simp [s_12, aILoad, aRLoad, aLLoad, aIStore, aRStore, aPush, aBin, aBinL, aShL, aUn, aIf, aIc, aGet, aPut, aIald, aBald, aAald, aIast, aBast, aAast, aAlen, aCopy, aCallV, aCallC, aCallI, aRet, aCat, aMax, aMin, aDiv, aRem, aI2l, aL2i, aNul, aSwS, aSw, aInc, aDup, aDup2, aPop1, aIret, aAret, aVret, aLen, aFk, aFT, Value.category, nI_lit0]
def sOut (σ : Nat → Int32) (a : Int32) (t : Nat) : Bool := sTh σ t && decide (a ≤ σ (53 + 7 * t))
theorem k_throw_loop {a : Int32} {I0 : Nat → Nat → Int32} (hf : isF f) (hw : wfS σ P T) (hP : P ≤ 8) (hT : T ≤ 10) : ∀ k t (I : Nat → Nat → Int32), t + k = T → relF f I (sThrow σ a t) P T → KH f I0 I →
    ∃ I1, aGo (aCall aMt (d + 1)) none cd_15 0 4 [some (.ref f), some (.int a), some (.int (nI (cnt (sOut σ a) t))), some (.int (nI t))] [] (HH I x y) = some (some (.int (nI (cnt (sOut σ a) T))), HH (aUpd I1 f 13 (if I1 f 13 + nI (cnt (sOut σ a) T) < 9999 then I1 f 13 + nI (cnt (sOut σ a) T) else 9999)) x y) ∧ relF f I1 (sThrow σ a T) P T ∧ KH f I0 I1 := by
  intro k
  induction k with
  | zero =>
    intro t I ht h hk
    obtain rfl : t = T := by omega
    refine ⟨I, ?_, h, hk⟩
    rw [s_15_4]
    simp [s_15, aILoad, aRLoad, aLLoad, aIStore, aRStore, aPush, aBin, aBinL, aShL, aUn, aIf, aIc, aGet, aPut, aIald, aBald, aAald, aIast, aBast, aAast, aAlen, aCopy, aCallV, aCallC, aCallI, aRet, aCat, aMax, aMin, aDiv, aRem, aI2l, aL2i, aNul, aSwS, aSw, aInc, aDup, aDup2, aPop1, aIret, aAret, aVret, aLen, aFk, aFT, Value.category, f_sh hf, h.fi]
  | succ k ih =>
    intro t I ht h hk
    have h1 : ¬ nI T ≤ nI t := nI_ge (by omega) (by omega)
    have e5 : sThrow σ a t (55 + 7 * t) = σ (55 + 7 * t) := sThrow_ne (fun u hu => by omega)
    have e3 : sThrow σ a t (53 + 7 * t) = σ (53 + 7 * t) := sThrow_ne (fun u hu => by omega)
    have e6 : sThrow σ a t (56 + 7 * t) = σ (56 + 7 * t) := sThrow_ne (fun u hu => by omega)
    have ht3 := h.th (show t < T by omega)
    rw [e5, e3, e6] at ht3
    have c1 := toNat_nI (show t < 2 ^ 31 by omega)
    have c2 := nI_lt0 (show t < 2 ^ 31 by omega)
    have c3 : ¬ 10 ≤ t := by omega
    have hl := k_leave (d := d) (x := x) (y := y) (I := I) (v := -1) hf (show t < 10 by omega)
    rw [s_15_4]
    rcases (hw.2.1 t (by omega)).2.2 with hi | ⟨hi, hm⟩
    · have ec : sOut σ a t = false := by simp [sOut, sTh, hi]
      have es : sThrow σ a (t + 1) = sThrow σ a t := by
        have ec2 : (sTh σ t && decide (a ≤ σ (53 + 7 * t))) = false := ec
        rw [sThrow, ec2]; rfl
      obtain ⟨I1, q1, q2, q3⟩ := ih (t + 1) I (by omega) (by rw [es]; exact h) hk
      refine ⟨I1, ?_, q2, q3⟩
      rw [cnt, ec] at q1
      rw [← q1]
      simp [s_15, aILoad, aRLoad, aLLoad, aIStore, aRStore, aPush, aBin, aBinL, aShL, aUn, aIf, aIc, aGet, aPut, aIald, aBald, aAald, aIast, aBast, aAast, aAlen, aCopy, aCallV, aCallC, aCallI, aRet, aCat, aMax, aMin, aDiv, aRem, aI2l, aL2i, aNul, aSwS, aSw, aInc, aDup, aDup2, aPop1, aIret, aAret, aVret, aLen, aFk, aFT, Value.category, f_sh hf, f_p hf, f_tp hf (show t < 10 by omega), f_th hf (show t < 10 by omega), h.fi, h1, ht3, hi, nI_1, c1, c2, c3]
    · by_cases ha : a ≤ σ (53 + 7 * t)
      · have ec : sOut σ a t = true := by simp [sOut, sTh, hi, ha]
        have es : sThrow σ a (t + 1) = upd (sThrow σ a t) (55 + 7 * t) 0 := by
          have ec2 : (sTh σ t && decide (a ≤ σ (53 + 7 * t))) = true := ec
          rw [sThrow, ec2]; rfl
        have g2 : relF f (aUpd (aUpd I (f + 21 + t) 5 0) (f + 21 + t) 6 (-1)) (upd (sThrow σ a t) (55 + 7 * t) 0) P T := by
          have z := (h.setT' (j := 5) (k := 55 + 7 * t) (v := 0) (show t < T by omega) (by omega) (by omega)).setT' (j := 6) (k := 56 + 7 * t) (v := -1) (show t < T by omega) (by omega) (by omega)
          rw [upd_self (f := upd (sThrow σ a t) (55 + 7 * t) 0) (k := 56 + 7 * t) (by rw [upd_ne (by omega), e6, hm])] at z
          exact z
        obtain ⟨I1, q1, q2, q3⟩ := ih (t + 1) (aUpd (aUpd I (f + 21 + t) 5 0) (f + 21 + t) 6 (-1)) (by omega) (by rw [es]; exact g2) ((hk.upd (by omega) (by omega)).upd (by omega) (by omega))
        refine ⟨I1, ?_, q2, q3⟩
        rw [cnt, ec] at q1
        rw [← q1]
        simp [s_15, aILoad, aRLoad, aLLoad, aIStore, aRStore, aPush, aBin, aBinL, aShL, aUn, aIf, aIc, aGet, aPut, aIald, aBald, aAald, aIast, aBast, aAast, aAlen, aCopy, aCallV, aCallC, aCallI, aRet, aCat, aMax, aMin, aDiv, aRem, aI2l, aL2i, aNul, aSwS, aSw, aInc, aDup, aDup2, aPop1, aIret, aAret, aVret, aLen, aFk, aFT, Value.category, f_sh hf, f_p hf, f_tp hf (show t < 10 by omega), f_th hf (show t < 10 by omega), h.fi, h1, ht3, hi, nI_1, c1, c2, c3, ha, Int32.not_lt.mpr ha, hl]
      · have ec : sOut σ a t = false := by simp [sOut, sTh, hi, ha]
        have es : sThrow σ a (t + 1) = sThrow σ a t := by
          have ec2 : (sTh σ t && decide (a ≤ σ (53 + 7 * t))) = false := ec
          rw [sThrow, ec2]; rfl
        obtain ⟨I1, q1, q2, q3⟩ := ih (t + 1) I (by omega) (by rw [es]; exact h) hk
        refine ⟨I1, ?_, q2, q3⟩
        rw [cnt, ec] at q1
        rw [← q1]
        simp [s_15, aILoad, aRLoad, aLLoad, aIStore, aRStore, aPush, aBin, aBinL, aShL, aUn, aIf, aIc, aGet, aPut, aIald, aBald, aAald, aIast, aBast, aAast, aAlen, aCopy, aCallV, aCallC, aCallI, aRet, aCat, aMax, aMin, aDiv, aRem, aI2l, aL2i, aNul, aSwS, aSw, aInc, aDup, aDup2, aPop1, aIret, aAret, aVret, aLen, aFk, aFT, Value.category, f_sh hf, f_p hf, f_tp hf (show t < 10 by omega), f_th hf (show t < 10 by omega), h.fi, h1, ht3, hi, nI_1, c1, c2, c3, ha, Int32.not_le.mp ha]
theorem k_throw {a : Int32} (hf : isF f) (h : relF f I σ P T) (hw : wfS σ P T) : ∃ I1, aCall aMt (d + 2) 15 [.ref f, .int a] (HH I x y) = some (some (.int (nI (cnt (sOut σ a) T))), HH (aUpd I1 f 13 (if I1 f 13 + nI (cnt (sOut σ a) T) < 9999 then I1 f 13 + nI (cnt (sOut σ a) T) else 9999)) x y) ∧ relF f I1 (sThrow σ a T) P T ∧ KH f I I1 := by
  obtain ⟨I1, g1, g2⟩ := k_throw_loop (d := d) (x := x) (y := y) (a := a) hf hw h.1.1 h.1.2 T 0 I (by omega) h KH.rf
  refine ⟨I1, ?_, g2⟩
  rw [e_15, ← g1]
  simp [s_15, aILoad, aRLoad, aLLoad, aIStore, aRStore, aPush, aBin, aBinL, aShL, aUn, aIf, aIc, aGet, aPut, aIald, aBald, aAald, aIast, aBast, aAast, aAlen, aCopy, aCallV, aCallC, aCallI, aRet, aCat, aMax, aMin, aDiv, aRem, aI2l, aL2i, aNul, aSwS, aSw, aInc, aDup, aDup2, aPop1, aIret, aAret, aVret, aLen, aFk, aFT, Value.category, cnt, nI_lit0]
end CLS7
