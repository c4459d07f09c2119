/-! LOCKS: the reference's search -/
noncomputable def sPeB (σ : Nat → Int32) (P T m : Nat) : Bool := @decide (sPe σ P T m) (Classical.propDecidable _)
theorem sPeB_t {σ : Nat → Int32} {P T m : Nat} (h : sPe σ P T m) : sPeB σ P T m = true := (@decide_eq_true_iff _ (Classical.propDecidable _)).mpr h
theorem sPeB_f {σ : Nat → Int32} {P T m : Nat} (h : ¬ sPe σ P T m) : sPeB σ P T m = false := by
  cases e : sPeB σ P T m with
  | false => rfl
  | true => exact absurd ((@decide_eq_true_iff _ (Classical.propDecidable _)).mp e) h
theorem shr_bit {m t : Nat} (hm : m < 1024) (ht : t < 10) : nI m >>> (nI t &&& 31) &&& 1 = if m.testBit t = true then 1 else 0 := by
  have h : ∀ t, t < 10 → ∀ m, m < 1024 → nI m >>> (nI t &&& 31) &&& 1 = if m.testBit t = true then 1 else 0 := by decide +kernel
  exact h t ht m hm
theorem and_not {a b : Nat} (h : ∀ t, a.testBit t = true → b.testBit t = true) : nI a &&& ~~~(nI b) = 0 := by
  apply Int32.toBitVec_inj.1
  show BitVec.ofNat 32 a &&& ~~~(BitVec.ofNat 32 b) = 0#32
  apply BitVec.eq_of_getLsbD_eq
  intro i hi
  simp only [BitVec.getLsbD_and, BitVec.getLsbD_not, BitVec.getLsbD_ofNat, BitVec.getLsbD_zero, hi, decide_true, Bool.true_and]
  cases ha : a.testBit i with
  | false => simp
  | true => rw [h i ha]; simp
theorem and_not' {a b : Nat} (ha : a < 1024) (h : nI a &&& ~~~(nI b) = 0) : ∀ t, a.testBit t = true → b.testBit t = true := by
  intro t ht
  have ht10 : t < 10 := Classical.byContradiction fun z => by
    have h2 : 2 ^ 10 ≤ 2 ^ t := Nat.pow_le_pow_right (by decide) (by omega)
    rw [Nat.testBit_lt_two_pow (show a < 2 ^ t by omega)] at ht; cases ht
  have h1 : BitVec.ofNat 32 a &&& ~~~(BitVec.ofNat 32 b) = 0#32 := congrArg Int32.toBitVec h
  have h2 := congrArg (fun v => v.getLsbD t) h1
  simp only [BitVec.getLsbD_and, BitVec.getLsbD_not, BitVec.getLsbD_ofNat, BitVec.getLsbD_zero, show t < 32 by omega, decide_true, Bool.true_and, ht] at h2
  cases hb : b.testBit t with
  | true => rfl
  | false => rw [hb] at h2; simp at h2
section LOCK3
variable {d : Nat} {I : Nat → Nat → Int32} {x y : Option Nat}
theorem r_pe_in {P T m p : Nat} (hT : T ≤ 10) (hP : P ≤ 8) (hm : m < 1024) (hp : p < P) (h8 : I 114 8 = nI T) (hD : ∀ p, p < P → ∀ t, t < T → I 121 (10 * p + t) = if sCan (I 114) t = true then sPull (I 114) p t 0 else 0) : ∀ k t (l7 : Option Value), t + k = T →
    ∃ l7', aGo (aCall aMt (d + 1)) none cd_186 1 28 [some (.ref 113), some (.int (nI m)), some (.int 1), some (.int (nI p)), some (.int (sBm (I 114) p m t).1), some (.int (sBm (I 114) p m t).2), some (.int (nI t)), l7] [] (HH I x y) = aGo (aCall aMt (d + 1)) none cd_186 1 106 [some (.ref 113), some (.int (nI m)), some (.int 1), some (.int (nI p)), some (.int (sBm (I 114) p m T).1), some (.int (sBm (I 114) p m T).2), some (.int (nI T)), l7'] [] (HH I x y) := by
  intro k
  induction k with
  | zero =>
    intro t l7 ht
    obtain rfl : t = T := by omega
    refine ⟨l7, ?_⟩
    rw [s_186_28]
    simp [s_186, aILoad, aRLoad, aLLoad, aIStore, aRStore, aPush, aBin, aBinL, aShL, aUn, aIf, aIc, aGet, aPut, aIald, aBald, aAald, aIast, aBast, aAast, aAlen, aCopy, aCallV, aCallC, aCallI, aRet, aCat, aMax, aMin, aDiv, aRem, aI2l, aL2i, aNul, aSwS, aSw, aInc, aDup, aDup2, aPop1, aIret, aAret, aVret, aLen, aFk, aFT, Value.category, m_sh, m_p, h8]
  | succ k ih =>
    intro t l7 ht
    have g1 : ¬ nI T ≤ nI t := nI_ge (by omega) (by omega)
    have ix : (10 : Int32) * nI p + nI t = nI (10 * p + t) := by rw [show (10 : Int32) = nI 10 from rfl, pk_mul, nI_add]
    have sb := shr_bit hm (show t < 10 by omega)
    have tt := toNat_nI (show 10 * p + t < 2 ^ 31 by omega)
    have nt := nI_lt0 (show 10 * p + t < 2 ^ 31 by omega)
    have lt : ¬ 80 ≤ 10 * p + t := by omega
    have hd := hD p hp t (by omega)
    obtain ⟨l7', r1⟩ := ih (t + 1) (some (.int (sVm (I 114) p m t))) (by omega)
    refine ⟨l7', ?_⟩
    rw [s_186_28, ← r1]
    by_cases hb : m.testBit t = true
    · rw [if_pos hb] at sb
      have hv : sVm (I 114) p m t = 0 := if_pos hb
      by_cases c : (sBm (I 114) p m t).2 < 0
      · rw [show sBm (I 114) p m (t + 1) = (nI t, 0) by rw [sBm, hv, if_pos c], hv]
        simp [s_186, aILoad, aRLoad, aLLoad, aIStore, aRStore, aPush, aBin, aBinL, aShL, aUn, aIf, aIc, aGet, aPut, aIald, aBald, aAald, aIast, aBast, aAast, aAlen, aCopy, aCallV, aCallC, aCallI, aRet, aCat, aMax, aMin, aDiv, aRem, aI2l, aL2i, aNul, aSwS, aSw, aInc, aDup, aDup2, aPop1, aIret, aAret, aVret, aLen, aFk, aFT, Value.category, m_sh, m_p, h8, g1, sb, c, Int32.not_le.mpr c, nI_1]
      · rw [show sBm (I 114) p m (t + 1) = sBm (I 114) p m t by rw [sBm, hv, if_neg c], hv]
        simp [s_186, aILoad, aRLoad, aLLoad, aIStore, aRStore, aPush, aBin, aBinL, aShL, aUn, aIf, aIc, aGet, aPut, aIald, aBald, aAald, aIast, aBast, aAast, aAlen, aCopy, aCallV, aCallC, aCallI, aRet, aCat, aMax, aMin, aDiv, aRem, aI2l, aL2i, aNul, aSwS, aSw, aInc, aDup, aDup2, aPop1, aIret, aAret, aVret, aLen, aFk, aFT, Value.category, m_sh, m_p, h8, g1, sb, c, Int32.not_lt.mp c, nI_1]
    · rw [if_neg hb] at sb
      have hv : I 121 (10 * p + t) = sVm (I 114) p m t := by rw [hd]; unfold sVm; rw [if_neg hb]
      by_cases c : (sBm (I 114) p m t).2 < sVm (I 114) p m t
      · rw [show sBm (I 114) p m (t + 1) = (nI t, sVm (I 114) p m t) by rw [sBm, if_pos c]]
        simp [s_186, aILoad, aRLoad, aLLoad, aIStore, aRStore, aPush, aBin, aBinL, aShL, aUn, aIf, aIc, aGet, aPut, aIald, aBald, aAald, aIast, aBast, aAast, aAlen, aCopy, aCallV, aCallC, aCallI, aRet, aCat, aMax, aMin, aDiv, aRem, aI2l, aL2i, aNul, aSwS, aSw, aInc, aDup, aDup2, aPop1, aIret, aAret, aVret, aLen, aFk, aFT, Value.category, m_sh, m_p, h8, g1, sb, ix, tt, nt, lt, hv, c, Int32.not_le.mpr c, nI_1]
      · rw [show sBm (I 114) p m (t + 1) = sBm (I 114) p m t by rw [sBm, if_neg c]]
        simp [s_186, aILoad, aRLoad, aLLoad, aIStore, aRStore, aPush, aBin, aBinL, aShL, aUn, aIf, aIc, aGet, aPut, aIald, aBald, aAald, aIast, aBast, aAast, aAlen, aCopy, aCallV, aCallC, aCallI, aRet, aCat, aMax, aMin, aDiv, aRem, aI2l, aL2i, aNul, aSwS, aSw, aInc, aDup, aDup2, aPop1, aIret, aAret, aVret, aLen, aFk, aFT, Value.category, m_sh, m_p, h8, g1, sb, ix, tt, nt, lt, hv, c, Int32.not_lt.mp c, nI_1]
theorem r_pe_loop {P T m : Nat} (hT : T ≤ 10) (hP : P ≤ 8) (hm : m < 1024) (h7 : I 114 7 = nI P) (h8 : I 114 8 = nI T) (hD : ∀ p, p < P → ∀ t, t < T → I 121 (10 * p + t) = if sCan (I 114) t = true then sPull (I 114) p t 0 else 0) : ∀ k p (l4 l5 l6 l7 : Option Value), p + k = P → (∀ q, q < p → ∀ t, t < T → (sBm (I 114) q m T).1 = nI t → I 114 (50 + 7 * t) = nI q) →
    aGo (aCall aMt (d + 1)) none cd_186 1 4 [some (.ref 113), some (.int (nI m)), some (.int 1), some (.int (nI p)), l4, l5, l6, l7] [] (HH I x y) = some (some (.int (if sPeB (I 114) P T m then 1 else 0)), HH I x y) := by
  intro k
  induction k with
  | zero =>
    intro p l4 l5 l6 l7 hp hq
    obtain rfl : p = P := by omega
    rw [s_186_4, sPeB_t hq]
    simp [s_186, aILoad, aRLoad, aLLoad, aIStore, aRStore, aPush, aBin, aBinL, aShL, aUn, aIf, aIc, aGet, aPut, aIald, aBald, aAald, aIast, aBast, aAast, aAlen, aCopy, aCallV, aCallC, aCallI, aRet, aCat, aMax, aMin, aDiv, aRem, aI2l, aL2i, aNul, aSwS, aSw, aInc, aDup, aDup2, aPop1, aIret, aAret, aVret, aLen, aFk, aFT, Value.category, m_sh, m_p, h7]
  | succ k ih =>
    intro p l4 l5 l6 l7 hp hq
    have g1 : ¬ nI P ≤ nI p := nI_ge (by omega) (by omega)
    obtain ⟨l7', r1⟩ := r_pe_in (d := d) (I := I) (x := x) (y := y) (P := P) (T := T) (m := m) (p := p) hT hP hm (by omega) h8 hD T 0 l7 (by omega)
    rw [sBm, nI_lit0] at r1
    rw [s_186_4]
    rcases sBm_c (I 114) p m T with hc | ⟨t, ht, hc⟩
    · have g := ih (p + 1) (some (.int (-1))) (some (.int (sBm (I 114) p m T).2)) (some (.int (nI T))) l7' (by omega) (fun q hq2 t ht e => by
        by_cases z : q = p
        · subst z; rw [hc] at e; exact absurd e.symm (nI_m1 (by omega))
        · exact hq q (by omega) t ht e)
      rw [hc] at r1
      rw [← g]
      simp [s_186, aILoad, aRLoad, aLLoad, aIStore, aRStore, aPush, aBin, aBinL, aShL, aUn, aIf, aIc, aGet, aPut, aIald, aBald, aAald, aIast, aBast, aAast, aAlen, aCopy, aCallV, aCallC, aCallI, aRet, aCat, aMax, aMin, aDiv, aRem, aI2l, aL2i, aNul, aSwS, aSw, aInc, aDup, aDup2, aPop1, aIret, aAret, aVret, aLen, aFk, aFT, Value.category, m_sh, m_p, h7, g1, r1, nI_1]
    · by_cases ho : I 114 (50 + 7 * t) = nI p
      · have g := ih (p + 1) (some (.int (nI t))) (some (.int (sBm (I 114) p m T).2)) (some (.int (nI T))) l7' (by omega) (fun q hq2 u hu e => by
          by_cases z : q = p
          · subst z
            have : t = u := (nI_eq (by omega) (by omega)).mp (hc.symm.trans e)
            subst this; exact ho
          · exact hq q (by omega) u hu e)
        rw [hc] at r1
        rw [← g]
        simp [s_186, aILoad, aRLoad, aLLoad, aIStore, aRStore, aPush, aBin, aBinL, aShL, aUn, aIf, aIc, aGet, aPut, aIald, aBald, aAald, aIast, aBast, aAast, aAlen, aCopy, aCallV, aCallC, aCallI, aRet, aCat, aMax, aMin, aDiv, aRem, aI2l, aL2i, aNul, aSwS, aSw, aInc, aDup, aDup2, aPop1, aIret, aAret, aVret, aLen, aFk, aFT, Value.category, m_sh, m_p, h7, g1, r1, nI_m1 (n := t) (by omega), r_of (show t < 10 by omega), ho, nI_1]
      · have hn : ¬ sPe (I 114) P T m := fun z => ho (z p (by omega) t ht hc)
        rw [sPeB_f hn]
        rw [hc] at r1
        by_cases c3 : p + 1 < P
        · have g2 : ¬ nI P ≤ nI (p + 1) := nI_ge c3 (by omega)
          simp [s_186, s_186_4, aILoad, aRLoad, aLLoad, aIStore, aRStore, aPush, aBin, aBinL, aShL, aUn, aIf, aIc, aGet, aPut, aIald, aBald, aAald, aIast, aBast, aAast, aAlen, aCopy, aCallV, aCallC, aCallI, aRet, aCat, aMax, aMin, aDiv, aRem, aI2l, aL2i, aNul, aSwS, aSw, aInc, aDup, aDup2, aPop1, aIret, aAret, aVret, aLen, aFk, aFT, Value.category, m_sh, m_p, h7, g1, g2, r1, nI_m1 (n := t) (by omega), r_of (show t < 10 by omega), ho, nI_1]
        · have g2 : nI P ≤ nI (p + 1) := nI_le (by omega) (by omega)
          simp [s_186, s_186_4, aILoad, aRLoad, aLLoad, aIStore, aRStore, aPush, aBin, aBinL, aShL, aUn, aIf, aIc, aGet, aPut, aIald, aBald, aAald, aIast, aBast, aAast, aAlen, aCopy, aCallV, aCallC, aCallI, aRet, aCat, aMax, aMin, aDiv, aRem, aI2l, aL2i, aNul, aSwS, aSw, aInc, aDup, aDup2, aPop1, aIret, aAret, aVret, aLen, aFk, aFT, Value.category, m_sh, m_p, h7, g1, g2, r1, nI_m1 (n := t) (by omega), r_of (show t < 10 by omega), ho, nI_1]
theorem r_peace {P T m : Nat} (hT : T ≤ 10) (hP : P ≤ 8) (hm : m < 1024) (h7 : I 114 7 = nI P) (h8 : I 114 8 = nI T) (hD : ∀ p, p < P → ∀ t, t < T → I 121 (10 * p + t) = if sCan (I 114) t = true then sPull (I 114) p t 0 else 0) : aCall aMt (d + 2) 186 [.ref 113, .int (nI m)] (HH I x y) = some (some (.int (if sPeB (I 114) P T m then 1 else 0)), HH I x y) := by
  have g := r_pe_loop (d := d) (I := I) (x := x) (y := y) (P := P) (T := T) (m := m) hT hP hm h7 h8 hD P 0 none none none none (by omega) (fun q hq => by omega)
  rw [nI_lit0] at g
  rw [e_186, ← g]
  simp [s_186, aILoad, aRLoad, aLLoad, aIStore, aRStore, aPush, aBin, aBinL, aShL, aUn, aIf, aIc, aGet, aPut, aIald, aBald, aAald, aIast, aBast, aAast, aAlen, aCopy, aCallV, aCallC, aCallI, aRet, aCat, aMax, aMin, aDiv, aRem, aI2l, aL2i, aNul, aSwS, aSw, aInc, aDup, aDup2, aPop1, aIret, aAret, aVret, aLen, aFk, aFT, Value.category]
/-- how much each would like each -/
def sDr1 (σ : Nat → Int32) (p t : Nat) : Int32 := if sCan σ t = true then sPull σ p t 0 else 0
theorem r_lk_in {P T t : Nat} {w fr : Int32} {I0 : Nat → Nat → Int32} (hT : T ≤ 10) (hP : P ≤ 8) (ht : t < T) (h7 : I0 114 7 = nI P) (hok : okT (I0 114)) : ∀ k p (I : Nat → Nat → Int32), p + k = P → (∀ r, r ≠ 119 → r ≠ 120 → r ≠ 121 → I r = I0 r) → (∀ q, q < p → I 121 (10 * q + t) = sDr1 (I0 114) q t) → (∀ q, q < P → ∀ u, u < t → I 121 (10 * q + u) = sDr1 (I0 114) q u) →
    ∃ I1, aGo (aCall aMt (d + 7)) none cd_188 0 51 [some (.ref 113), some (.int w), some (.int fr), some (.int (nI t)), some (.int (nI p)), none] [] (HH I x y) = aGo (aCall aMt (d + 7)) none cd_188 0 19 [some (.ref 113), some (.int w), some (.int fr), some (.int (nI (t + 1))), some (.int (nI P)), none] [] (HH I1 x y) ∧ (∀ r, r ≠ 119 → r ≠ 120 → r ≠ 121 → I1 r = I0 r) ∧ (∀ q, q < P → ∀ u, u < t + 1 → I1 121 (10 * q + u) = sDr1 (I0 114) q u) := by
  intro k
  induction k with
  | zero =>
    intro p I hp hk ha hb
    obtain rfl : p = P := by omega
    have e : I 114 = I0 114 := hk 114 (by omega) (by omega) (by omega)
    refine ⟨I, ?_, hk, fun q hq u hu => ?_⟩
    · rw [s_188_51]
      simp [s_188, aILoad, aRLoad, aLLoad, aIStore, aRStore, aPush, aBin, aBinL, aShL, aUn, aIf, aIc, aGet, aPut, aIald, aBald, aAald, aIast, aBast, aAast, aAlen, aCopy, aCallV, aCallC, aCallI, aRet, aCat, aMax, aMin, aDiv, aRem, aI2l, aL2i, aNul, aSwS, aSw, aInc, aDup, aDup2, aPop1, aIret, aAret, aVret, aLen, aFk, aFT, Value.category, m_sh, m_p, e, h7, nI_1]
    · by_cases z : u = t
      · subst z; exact ha q hq
      · exact hb q hq u (by omega)
  | succ k ih =>
    intro p I hp hk ha hb
    have e : I 114 = I0 114 := hk 114 (by omega) (by omega) (by omega)
    have g1 : ¬ nI P ≤ nI p := nI_ge (by omega) (by omega)
    have ix : (10 : Int32) * nI p + nI t = nI (10 * p + t) := by rw [show (10 : Int32) = nI 10 from rfl, pk_mul, nI_add]
    have tt := toNat_nI (show 10 * p + t < 2 ^ 31 by omega)
    have nt := nI_lt0 (show 10 * p + t < 2 ^ 31 by omega)
    have lt : ¬ 80 ≤ 10 * p + t := by omega
    have cg := r_canGo (d := d + 4) (I := I) (x := x) (y := y) (t := t) (by omega)
    rw [e] at cg
    have fin : ∀ (J : Nat → Nat → Int32), RF I J → ∃ I1, aGo (aCall aMt (d + 7)) none cd_188 0 51 [some (.ref 113), some (.int w), some (.int fr), some (.int (nI t)), some (.int (nI (p + 1))), none] [] (HH (aUpd J 121 (10 * p + t) (sDr1 (I0 114) p t)) x y) = aGo (aCall aMt (d + 7)) none cd_188 0 19 [some (.ref 113), some (.int w), some (.int fr), some (.int (nI (t + 1))), some (.int (nI P)), none] [] (HH I1 x y) ∧ (∀ r, r ≠ 119 → r ≠ 120 → r ≠ 121 → I1 r = I0 r) ∧ (∀ q, q < P → ∀ u, u < t + 1 → I1 121 (10 * q + u) = sDr1 (I0 114) q u) := by
      intro J hJ
      refine ih (p + 1) _ (by omega) (fun r a b c => by rw [aUpd_ne c, hJ r a b]; exact hk r a b c) (fun q hq => ?_) (fun q hq u hu => ?_)
      · rw [aUpd_row, hJ 121 (by omega) (by omega)]
        by_cases z : q = p
        · subst z; rw [upd_eq]
        · rw [upd_ne (by omega)]; exact ha q (by omega)
      · rw [aUpd_row, hJ 121 (by omega) (by omega), upd_ne (by omega)]; exact hb q hq u hu
    by_cases c : sCan (I0 114) t = true
    · obtain ⟨J, q1, q2⟩ := r_drawn (d := d) (x := x) (y := y) (I := I) (p := p) (t := t) (s := 0) (by omega) (by omega) (by rw [e]; exact hok)
      rw [e] at q1
      obtain ⟨I1, r1, r2⟩ := fin J q2
      refine ⟨I1, ?_, r2⟩
      rw [s_188_51, ← r1]
      rw [c] at cg
      have ej : J 121 = I 121 := q2 121 (by omega) (by omega)
      simp [s_188, aILoad, aRLoad, aLLoad, aIStore, aRStore, aPush, aBin, aBinL, aShL, aUn, aIf, aIc, aGet, aPut, aIald, aBald, aAald, aIast, aBast, aAast, aAlen, aCopy, aCallV, aCallC, aCallI, aRet, aCat, aMax, aMin, aDiv, aRem, aI2l, aL2i, aNul, aSwS, aSw, aInc, aDup, aDup2, aPop1, aIret, aAret, aVret, aLen, aFk, aFT, Value.category, m_sh, m_p, e, h7, g1, cg, ix, tt, nt, lt, q1, sDr1, c, nI_1]
    · obtain ⟨I1, r1, r2⟩ := fin I RF.rf
      refine ⟨I1, ?_, r2⟩
      have c' : sCan (I0 114) t = false := by simpa using c
      rw [s_188_51, ← r1]
      rw [c'] at cg
      simp [s_188, aILoad, aRLoad, aLLoad, aIStore, aRStore, aPush, aBin, aBinL, aShL, aUn, aIf, aIc, aGet, aPut, aIald, aBald, aAald, aIast, aBast, aAast, aAlen, aCopy, aCallV, aCallC, aCallI, aRet, aCat, aMax, aMin, aDiv, aRem, aI2l, aL2i, aNul, aSwS, aSw, aInc, aDup, aDup2, aPop1, aIret, aAret, aVret, aLen, aFk, aFT, Value.category, m_sh, m_p, e, h7, g1, cg, ix, tt, nt, lt, sDr1, c', nI_1]
theorem r_lk_out {P T : Nat} {w : Int32} {I0 : Nat → Nat → Int32} (hT : T ≤ 10) (hP : P ≤ 8) (h7 : I0 114 7 = nI P) (h8 : I0 114 8 = nI T) (hok : okT (I0 114)) : ∀ k t (I : Nat → Nat → Int32) (l4 : Option Value), t + k = T → (∀ r, r ≠ 119 → r ≠ 120 → r ≠ 121 → I r = I0 r) → (∀ q, q < P → ∀ u, u < t → I 121 (10 * q + u) = sDr1 (I0 114) q u) →
    ∃ I1, aGo (aCall aMt (d + 7)) none cd_188 0 19 [some (.ref 113), some (.int w), some (.int (nI (bS (sCan (I0 114)) t))), some (.int (nI t)), l4, none] [] (HH I x y) = aGo (aCall aMt (d + 7)) none cd_188 0 112 [some (.ref 113), some (.int w), some (.int (nI (bS (sCan (I0 114)) T))), some (.int (nI (bS (sCan (I0 114)) T))), some (.int 0), none] [] (HH I1 x y) ∧ (∀ r, r ≠ 119 → r ≠ 120 → r ≠ 121 → I1 r = I0 r) ∧ (∀ q, q < P → ∀ u, u < T → I1 121 (10 * q + u) = sDr1 (I0 114) q u) := by
  intro k
  induction k with
  | zero =>
    intro t I l4 ht hk hb
    obtain rfl : t = T := by omega
    have e : I 114 = I0 114 := hk 114 (by omega) (by omega) (by omega)
    refine ⟨I, ?_, hk, hb⟩
    rw [s_188_19]
    simp [s_188, aILoad, aRLoad, aLLoad, aIStore, aRStore, aPush, aBin, aBinL, aShL, aUn, aIf, aIc, aGet, aPut, aIald, aBald, aAald, aIast, aBast, aAast, aAlen, aCopy, aCallV, aCallC, aCallI, aRet, aCat, aMax, aMin, aDiv, aRem, aI2l, aL2i, aNul, aSwS, aSw, aInc, aDup, aDup2, aPop1, aIret, aAret, aVret, aLen, aFk, aFT, Value.category, m_sh, m_p, e, h8]
  | succ k ih =>
    intro t I l4 ht hk hb
    have e : I 114 = I0 114 := hk 114 (by omega) (by omega) (by omega)
    have g1 : ¬ nI T ≤ nI t := nI_ge (by omega) (by omega)
    have cg := r_canGo (d := d + 4) (I := I) (x := x) (y := y) (t := t) (by omega)
    rw [e] at cg
    obtain ⟨I2, q1, q2, q3⟩ := r_lk_in (d := d) (x := x) (y := y) (P := P) (T := T) (t := t) (w := w) (fr := nI (bS (sCan (I0 114)) (t + 1))) (I0 := I0) hT hP (by omega) h7 hok P 0 I (by omega) hk (fun q hq => by omega) hb
    obtain ⟨I1, r1, r2⟩ := ih (t + 1) I2 (some (.int (nI P))) (by omega) q2 q3
    refine ⟨I1, ?_, r2⟩
    rw [nI_lit0] at q1
    rw [s_188_19, ← r1, ← q1]
    by_cases c : sCan (I0 114) t = true
    · have ee : bS (sCan (I0 114)) (t + 1) = bS (sCan (I0 114)) t + 2 ^ t := by rw [bS, if_pos c]
      rw [ee, ← or_bit (show t < 16 by omega) (bS_lt _ t)]
      rw [c] at cg
      simp [s_188, aILoad, aRLoad, aLLoad, aIStore, aRStore, aPush, aBin, aBinL, aShL, aUn, aIf, aIc, aGet, aPut, aIald, aBald, aAald, aIast, aBast, aAast, aAlen, aCopy, aCallV, aCallC, aCallI, aRet, aCat, aMax, aMin, aDiv, aRem, aI2l, aL2i, aNul, aSwS, aSw, aInc, aDup, aDup2, aPop1, aIret, aAret, aVret, aLen, aFk, aFT, Value.category, m_sh, m_p, e, h8, g1, cg]
    · have ee : bS (sCan (I0 114)) (t + 1) = bS (sCan (I0 114)) t := by rw [bS, if_neg c]; rfl
      have c' : sCan (I0 114) t = false := by simpa using c
      rw [ee]
      rw [c'] at cg
      simp [s_188, aILoad, aRLoad, aLLoad, aIStore, aRStore, aPush, aBin, aBinL, aShL, aUn, aIf, aIc, aGet, aPut, aIald, aBald, aAald, aIast, aBast, aAast, aAlen, aCopy, aCallV, aCallC, aCallI, aRet, aCat, aMax, aMin, aDiv, aRem, aI2l, aL2i, aNul, aSwS, aSw, aInc, aDup, aDup2, aPop1, aIret, aAret, aVret, aLen, aFk, aFT, Value.category, m_sh, m_p, e, h8, g1, cg]
theorem pop_10 {v : Nat} (h : v < 1024) : pop v ≤ 10 := by rw [pop_cnt h]; exact cnt_le _ 10
theorem r_lk_find {P T S F : Nat} {w : Int32} (hT : T ≤ 10) (hP : P ≤ 8) (h7 : I 114 7 = nI P) (h8 : I 114 8 = nI T) (hD : ∀ p, p < P → ∀ t, t < T → I 121 (10 * p + t) = if sCan (I 114) t = true then sPull (I 114) p t 0 else 0) (hF : F < 1024) (hSF : ∀ t, S.testBit t = true → F.testBit t = true) (hS : S < 1024) (hpe : sPe (I 114) P T S) (hmin : ∀ M, sPe (I 114) P T M → ∀ t, S.testBit t = true → M.testBit t = true) : ∀ k i (l5 : Option Value), i + k = F + 1 →
    ∃ l5', aGo (aCall aMt (d + 7)) none cd_188 0 112 [some (.ref 113), some (.int w), some (.int (nI F)), some (.int (nI (if S < i then S else F))), some (.int (nI i)), l5] [] (HH I x y) = aGo (aCall aMt (d + 7)) none cd_188 0 191 [some (.ref 113), some (.int w), some (.int (nI F)), some (.int (nI S)), some (.int (nI (F + 1))), l5'] [] (HH I x y) := by
  have hle : S ≤ F := Nat.le_of_testBit hSF
  intro k
  induction k with
  | zero =>
    intro i l5 hi
    obtain rfl : i = F + 1 := by omega
    have g1 : nI F < nI (F + 1) := nI_lt (by omega) (by omega)
    refine ⟨l5, ?_⟩
    rw [s_188_112, if_pos (show S < F + 1 by omega)]
    simp [s_188, aILoad, aRLoad, aLLoad, aIStore, aRStore, aPush, aBin, aBinL, aShL, aUn, aIf, aIc, aGet, aPut, aIald, aBald, aAald, aIast, aBast, aAast, aAlen, aCopy, aCallV, aCallC, aCallI, aRet, aCat, aMax, aMin, aDiv, aRem, aI2l, aL2i, aNul, aSwS, aSw, aInc, aDup, aDup2, aPop1, aIret, aAret, aVret, aLen, aFk, aFT, Value.category, g1]
  | succ k ih =>
    intro i l5 hi
    have g1 : ¬ nI F < nI i := nI_nlt (by omega) (by omega)
    have hpeace := r_peace (d := d + 5) (I := I) (x := x) (y := y) (P := P) (T := T) (m := i) hT hP (by omega) h7 h8 hD
    generalize hb : (if S < i then S else F) = b
    have hb1 : b < 1024 := by rw [← hb]; split <;> omega
    have same : ∀ b', b' = (if S < i + 1 then S else F) → ∀ l5, ∃ l5', aGo (aCall aMt (d + 7)) none cd_188 0 112 [some (.ref 113), some (.int w), some (.int (nI F)), some (.int (nI b')), some (.int (nI (i + 1))), l5] [] (HH I x y) = aGo (aCall aMt (d + 7)) none cd_188 0 191 [some (.ref 113), some (.int w), some (.int (nI F)), some (.int (nI S)), some (.int (nI (F + 1))), l5'] [] (HH I x y) := fun b' hb' l5 => by rw [hb']; exact ih (i + 1) l5 (by omega)
    have keep : i ≠ S → b = if S < i + 1 then S else F := fun z => by
      rw [← hb]
      by_cases q : S < i
      · rw [if_pos q, if_pos (by omega)]
      · rw [if_neg q, if_neg (by omega)]
    have kb := fun H => r_bits (d := d + 6) (H := H) (v := i) (by omega)
    have kb2 := fun H => r_bits (d := d + 6) (H := H) (v := b) hb1
    have p1 := pop_10 (v := i) (by omega)
    have p2 := pop_10 hb1
    have L1 := nI_ltE (a := pop i) (b := pop b) (by omega) (by omega)
    have L2 := nI_inj (a := pop i) (b := pop b) (by omega) (by omega)
    have L3 := nI_leE (a := b) (b := i) (by omega) (by omega)
    by_cases c1 : ∀ t, i.testBit t = true → F.testBit t = true
    · have ca := and_not c1
      by_cases may : pop i < pop b ∨ pop i = pop b ∧ i < b
      · by_cases pe : sPe (I 114) P T i
        · have hsub := hmin i pe
          have hSi : i = S := Classical.byContradiction fun z => by
            have h1 : S ≤ i := Nat.le_of_testBit hsub
            have h2 : pop S ≤ pop i := pop_sub hS (by omega) hsub
            rw [if_pos (show S < i by omega)] at hb
            rw [← hb] at may
            omega
          rw [sPeB_t pe] at hpeace
          obtain ⟨l5', r1⟩ := same i (by rw [if_pos (show S < i + 1 by omega)]; exact hSi) (some (.int 1))
          refine ⟨l5', ?_⟩
          rw [← r1, s_188_112]
          rcases may with ma | ⟨ma, mb⟩
          · simp [s_188, aILoad, aRLoad, aLLoad, aIStore, aRStore, aPush, aBin, aBinL, aShL, aUn, aIf, aIc, aGet, aPut, aIald, aBald, aAald, aIast, aBast, aAast, aAlen, aCopy, aCallV, aCallC, aCallI, aRet, aCat, aMax, aMin, aDiv, aRem, aI2l, aL2i, aNul, aSwS, aSw, aInc, aDup, aDup2, aPop1, aIret, aAret, aVret, aLen, aFk, aFT, Value.category, g1, ca, kb, kb2, L1, ma, hpeace, m_sh, nI_1]
          · simp [s_188, aILoad, aRLoad, aLLoad, aIStore, aRStore, aPush, aBin, aBinL, aShL, aUn, aIf, aIc, aGet, aPut, aIald, aBald, aAald, aIast, aBast, aAast, aAlen, aCopy, aCallV, aCallC, aCallI, aRet, aCat, aMax, aMin, aDiv, aRem, aI2l, aL2i, aNul, aSwS, aSw, aInc, aDup, aDup2, aPop1, aIret, aAret, aVret, aLen, aFk, aFT, Value.category, g1, ca, kb, kb2, L1, L3, ma, show ¬ b ≤ i by omega, hpeace, m_sh, nI_1]
        · rw [sPeB_f pe] at hpeace
          obtain ⟨l5', r1⟩ := same b (keep fun z => pe (z ▸ hpe)) (some (.int 1))
          refine ⟨l5', ?_⟩
          rw [← r1, s_188_112]
          rcases may with ma | ⟨ma, mb⟩
          · simp [s_188, aILoad, aRLoad, aLLoad, aIStore, aRStore, aPush, aBin, aBinL, aShL, aUn, aIf, aIc, aGet, aPut, aIald, aBald, aAald, aIast, aBast, aAast, aAlen, aCopy, aCallV, aCallC, aCallI, aRet, aCat, aMax, aMin, aDiv, aRem, aI2l, aL2i, aNul, aSwS, aSw, aInc, aDup, aDup2, aPop1, aIret, aAret, aVret, aLen, aFk, aFT, Value.category, g1, ca, kb, kb2, L1, ma, hpeace, m_sh, nI_1]
          · simp [s_188, aILoad, aRLoad, aLLoad, aIStore, aRStore, aPush, aBin, aBinL, aShL, aUn, aIf, aIc, aGet, aPut, aIald, aBald, aAald, aIast, aBast, aAast, aAlen, aCopy, aCallV, aCallC, aCallI, aRet, aCat, aMax, aMin, aDiv, aRem, aI2l, aL2i, aNul, aSwS, aSw, aInc, aDup, aDup2, aPop1, aIret, aAret, aVret, aLen, aFk, aFT, Value.category, g1, ca, kb, kb2, L1, L3, ma, show ¬ b ≤ i by omega, hpeace, m_sh, nI_1]
      · obtain ⟨ma, mb⟩ := not_or.mp may
        have hb2 : b = if S < i + 1 then S else F := by
          by_cases z : i = S
          · rw [if_neg (show ¬ S < i by omega)] at hb
            rw [if_pos (by omega)]
            by_cases q : S = F
            · omega
            · have := pop_str hS hF hSF q
              rw [z, ← hb] at ma; exact absurd this ma
          · exact keep z
        obtain ⟨l5', r1⟩ := same b hb2 (some (.int 0))
        refine ⟨l5', ?_⟩
        rw [← r1, s_188_112]
        by_cases mc : pop i = pop b
        · have md : b ≤ i := Nat.not_lt.mp fun z => mb ⟨mc, z⟩
          simp [s_188, aILoad, aRLoad, aLLoad, aIStore, aRStore, aPush, aBin, aBinL, aShL, aUn, aIf, aIc, aGet, aPut, aIald, aBald, aAald, aIast, aBast, aAast, aAlen, aCopy, aCallV, aCallC, aCallI, aRet, aCat, aMax, aMin, aDiv, aRem, aI2l, aL2i, aNul, aSwS, aSw, aInc, aDup, aDup2, aPop1, aIret, aAret, aVret, aLen, aFk, aFT, Value.category, g1, ca, kb, kb2, L1, L3, mc, md, nI_1]
        · simp [s_188, aILoad, aRLoad, aLLoad, aIStore, aRStore, aPush, aBin, aBinL, aShL, aUn, aIf, aIc, aGet, aPut, aIald, aBald, aAald, aIast, aBast, aAast, aAlen, aCopy, aCallV, aCallC, aCallI, aRet, aCat, aMax, aMin, aDiv, aRem, aI2l, aL2i, aNul, aSwS, aSw, aInc, aDup, aDup2, aPop1, aIret, aAret, aVret, aLen, aFk, aFT, Value.category, g1, ca, kb, kb2, L1, L2, ma, mc, nI_1]
    · have ca : ¬ nI i &&& ~~~(nI F) = 0 := fun z => c1 (and_not' (by omega) z)
      obtain ⟨l5', r1⟩ := same b (keep fun z => c1 (z ▸ hSF)) (some (.int 0))
      refine ⟨l5', ?_⟩
      rw [← r1, s_188_112]
      simp [s_188, aILoad, aRLoad, aLLoad, aIStore, aRStore, aPush, aBin, aBinL, aShL, aUn, aIf, aIc, aGet, aPut, aIald, aBald, aAald, aIast, aBast, aAast, aAlen, aCopy, aCallV, aCallC, aCallI, aRet, aCat, aMax, aMin, aDiv, aRem, aI2l, aL2i, aNul, aSwS, aSw, aInc, aDup, aDup2, aPop1, aIret, aAret, aVret, aLen, aFk, aFT, Value.category, g1, ca, nI_1]
theorem pair_lock (w : Int32) : Pair 86 188 [.int w] := by
  intro d I x y h
  obtain ⟨f, P, T, h1, hf, hA⟩ := h.f
  obtain ⟨g, hg1⟩ : ∃ g, g = 63 := ⟨63, rfl⟩
  have hg := isF_63 hg1
  have hP := hA.1.1
  have e7 := hA.1.fi.2.2.1
  have e8 := hA.1.fi.2.2.2.1
  by_cases hw : 0 ≤ w ∧ w ≤ 1
  · obtain ⟨I1, S, k1, k2, k3, k4, k5, k6, k7⟩ := k_locks (d := d + 12) (x := x) (y := y) h1 hg1 hf hg hA (by rw [hg1]; exact h.2.2.1)
    have h2T : 2 ^ T ≤ 2 ^ 10 := Nat.pow_le_pow_right (by decide) hP.2
    have hS : S < 1024 := by omega
    have er : ∀ r, r < 63 ∨ 93 < r → I1 r = I r := fun r hr => k3 r (by omega)
    have e114 : I1 114 = I 114 := er 114 (by omega)
    obtain ⟨I2, r1, r2, r3⟩ := r_lk_out (d := d + 12) (x := x) (y := y) (P := P) (T := T) (w := w) (I0 := I1) hP.2 hP.1 (by rw [e114]; exact e7) (by rw [e114]; exact e8) (by rw [e114]; exact hA.2.2.ok) T 0 I1 none (by omega) (fun _ _ _ _ => rfl) (fun _ _ u hu => by omega)
    rw [bS, nI_lit0] at r1
    have i114 : I2 114 = I 114 := by rw [r2 114 (by omega) (by omega) (by omega)]; exact e114
    have hF : bS (sCan (I 114)) T < 1024 := bS_1024 hP.2
    have hSF : ∀ t, S.testBit t = true → (bS (sCan (I 114)) T).testBit t = true := fun t ht => by
      refine bS_bit'.mpr ⟨Classical.byContradiction fun z => ?_, k7 t ht⟩
      have h2 : 2 ^ T ≤ 2 ^ t := Nat.pow_le_pow_right (by decide) (by omega)
      rw [Nat.testBit_lt_two_pow (show S < 2 ^ t by omega)] at ht; cases ht
    obtain ⟨l5, r4⟩ := r_lk_find (d := d + 12) (I := I2) (x := x) (y := y) (P := P) (T := T) (S := S) (F := bS (sCan (I 114)) T) (w := w) hP.2 hP.1 (by rw [i114]; exact e7) (by rw [i114]; exact e8) (fun p hp t ht => by rw [r3 p hp t ht, e114, i114]; rfl) hF hSF hS (by rw [i114]; exact k5) (by rw [i114]; exact k6) (bS (sCan (I 114)) T + 1) 0 none (by omega)
    rw [if_neg (show ¬ S < 0 by omega), nI_lit0] at r4
    rw [e114, r4] at r1
    have kb := k_bits (d := d + 18) (H := HH I1 x y) hS
    have rb := r_bits (d := d + 18) (H := HH I2 x y) hS
    have hI : ∀ r, r < 113 → r ≠ 7 → r ≠ 11 → (r < 63 ∨ 94 ≤ r) → r ≠ 104 → I2 r = I r := fun r a b c e _ => by rw [r2 r (by omega) (by omega) (by omega)]; exact er r (by omega)
    have hk : kF 63 I2 := by
      rw [hg1] at k2; exact k2.rows fun r a b => r2 r (by omega) (by omega) (by omega)
    have hJ : ∀ r, 113 ≤ r → r < 116 ∨ r = 117 ∨ 122 < r → I2 r = I r := fun r a b => by rw [r2 r (by omega) (by omega) (by omega)]; exact er r (by omega)
    rcases in_01 hw with rfl | rfl
    · refine Pair.gen (I1 := I1) (v := nI (pop S)) h ?_ ?_ hI hk hJ
      · rw [e_86]; simp [s_86, aILoad, aRLoad, aLLoad, aIStore, aRStore, aPush, aBin, aBinL, aShL, aUn, aIf, aIc, aGet, aPut, aIald, aBald, aAald, aIast, aBast, aAast, aAlen, aCopy, aCallV, aCallC, aCallI, aRet, aCat, aMax, aMin, aDiv, aRem, aI2l, aL2i, aNul, aSwS, aSw, aInc, aDup, aDup2, aPop1, aIret, aAret, aVret, aLen, aFk, aFT, Value.category, c_sh, k_isIn, k1, kb]
      · rw [e_188]; simp [s_188, aILoad, aRLoad, aLLoad, aIStore, aRStore, aPush, aBin, aBinL, aShL, aUn, aIf, aIc, aGet, aPut, aIald, aBald, aAald, aIast, aBast, aAast, aAlen, aCopy, aCallV, aCallC, aCallI, aRet, aCat, aMax, aMin, aDiv, aRem, aI2l, aL2i, aNul, aSwS, aSw, aInc, aDup, aDup2, aPop1, aIret, aAret, aVret, aLen, aFk, aFT, Value.category, m_sh, m_p, r_in, r1, rb]
    · refine Pair.gen (I1 := I1) (v := nI S) h ?_ ?_ hI hk hJ
      · rw [e_86]; simp [s_86, aILoad, aRLoad, aLLoad, aIStore, aRStore, aPush, aBin, aBinL, aShL, aUn, aIf, aIc, aGet, aPut, aIald, aBald, aAald, aIast, aBast, aAast, aAlen, aCopy, aCallV, aCallC, aCallI, aRet, aCat, aMax, aMin, aDiv, aRem, aI2l, aL2i, aNul, aSwS, aSw, aInc, aDup, aDup2, aPop1, aIret, aAret, aVret, aLen, aFk, aFT, Value.category, c_sh, k_isIn, k1]
      · rw [e_188]; simp [s_188, aILoad, aRLoad, aLLoad, aIStore, aRStore, aPush, aBin, aBinL, aShL, aUn, aIf, aIc, aGet, aPut, aIald, aBald, aAald, aIast, aBast, aAast, aAlen, aCopy, aCallV, aCallC, aCallI, aRet, aCat, aMax, aMin, aDiv, aRem, aI2l, aL2i, aNul, aSwS, aSw, aInc, aDup, aDup2, aPop1, aIret, aAret, aVret, aLen, aFk, aFT, Value.category, m_sh, m_p, r_in, r1]
  · refine Pair.ref 1 (-1000000001) h ?_ (fun I' hI => ?_)
    · rw [e_86]; simp [s_86, aILoad, aRLoad, aLLoad, aIStore, aRStore, aPush, aBin, aBinL, aShL, aUn, aIf, aIc, aGet, aPut, aIald, aBald, aAald, aIast, aBast, aAast, aAlen, aCopy, aCallV, aCallC, aCallI, aRet, aCat, aMax, aMin, aDiv, aRem, aI2l, aL2i, aNul, aSwS, aSw, aInc, aDup, aDup2, aPop1, aIret, aAret, aVret, aLen, aFk, aFT, Value.category, c_sh, k_isIn, hw, rf_1]
    · rw [e_188]; simp [s_188, aILoad, aRLoad, aLLoad, aIStore, aRStore, aPush, aBin, aBinL, aShL, aUn, aIf, aIc, aGet, aPut, aIald, aBald, aAald, aIast, aBast, aAast, aAlen, aCopy, aCallV, aCallC, aCallI, aRet, aCat, aMax, aMin, aDiv, aRem, aI2l, aL2i, aNul, aSwS, aSw, aInc, aDup, aDup2, aPop1, aIret, aAret, aVret, aLen, aFk, aFT, Value.category, m_sh, m_p, r_in, hw, re_1]
end LOCK3
