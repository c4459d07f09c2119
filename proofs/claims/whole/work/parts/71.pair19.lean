/-! the calls in pairs: safest -/
theorem bS_bit (g : Nat → Bool) : ∀ n i, (bS g n).testBit i = (decide (i < n) && g i)
  | 0, i => by rw [bS]; simp
  | n + 1, i => by
    have hb := bS_lt g n
    rw [bS]
    by_cases hg : g n = true
    · rw [if_pos hg, Nat.add_comm]
      rcases Nat.lt_trichotomy i n with h | h | h
      · rw [Nat.testBit_two_pow_add_gt h, bS_bit g n i]; simp [h, show i < n + 1 by omega]
      · subst h; rw [Nat.testBit_two_pow_add_eq, bS_bit g i i]; simp [hg]
      · have h2 : 2 ^ (n + 1) ≤ 2 ^ i := Nat.pow_le_pow_right (by decide) h
        rw [Nat.pow_succ] at h2
        rw [Nat.testBit_lt_two_pow (show 2 ^ n + bS g n < 2 ^ i by omega)]; simp [show ¬ i < n + 1 by omega]
    · rw [if_neg hg, Nat.add_zero, bS_bit g n i]
      by_cases e : i = n
      · subst e; simp [hg]
      · by_cases h : i < n
        · simp [h, show i < n + 1 by omega]
        · simp [h, show ¬ i < n + 1 by omega]
theorem bS_bit' {g : Nat → Bool} {n i : Nat} : (bS g n).testBit i = true ↔ i < n ∧ g i = true := by rw [bS_bit]; simp
theorem nI_andn {a q : Nat} (hq : q < 8) (ha : a < 256) : nI a &&& ~~~((1 : Int32) <<< (nI q &&& 31)) = nI (a &&& (255 ^^^ 2 ^ q)) := by
  have h : ∀ q, q < 8 → ∀ a, a < 256 → nI a &&& ~~~((1 : Int32) <<< (nI q &&& 31)) = nI (a &&& (255 ^^^ 2 ^ q)) := by decide +kernel
  exact h q hq a ha
theorem bS_andn {g : Nat → Bool} {P q : Nat} (hP : P ≤ 8) : bS g P &&& (255 ^^^ 2 ^ q) = bS (fun p => g p && !decide (p = q)) P := by
  apply Nat.eq_of_testBit_eq
  intro i
  rw [Nat.testBit_and, Nat.testBit_xor, bS_bit, bS_bit, Nat.testBit_two_pow, show (255 : Nat) = 2 ^ 8 - 1 from rfl, Nat.testBit_two_pow_sub_one]
  by_cases h : i < P
  · by_cases e : q = i
    · subst e; simp [h, show q < 8 by omega]
    · simp [h, show i < 8 by omega, e, show ¬ i = q from fun z => e z.symm]
  · simp [h]
def sOth (σ : Nat → Int32) (s : Int32) (t q p : Nat) : Bool := sWs σ s (nI t) p && !decide (p = q)
theorem upd_upd {f : Nat → Int32} {k : Nat} {a b : Int32} : upd (upd f k a) k b = upd f k b := by
  funext j; unfold upd; split <;> rfl
def sNum (σ : Nat → Int32) (t q P l : Nat) : Nat := cnt (sOth (upd σ (51 + 7 * t) (nI l)) 0 t q) P + cnt (sOth (upd σ (51 + 7 * t) (nI l)) 1 t q) P
def sSf (σ : Nat → Int32) (t q P : Nat) : Nat → Nat × Nat
  | 0 => (0, 17)
  | l + 1 => if sNum σ t q P l < (sSf σ t q P l).2 then (l, sNum σ t q P l) else sSf σ t q P l
theorem sNum_le {σ : Nat → Int32} {t q P l : Nat} (hP : P ≤ 8) : sNum σ t q P l ≤ 16 := by
  have h1 := cnt_le (sOth (upd σ (51 + 7 * t) (nI l)) 0 t q) P
  have h2 := cnt_le (sOth (upd σ (51 + 7 * t) (nI l)) 1 t q) P
  unfold sNum; omega
theorem sSf_le {σ : Nat → Int32} {t q P : Nat} (hP : P ≤ 8) : ∀ l, (sSf σ t q P l).1 ≤ l ∧ (sSf σ t q P l).2 ≤ 17
  | 0 => ⟨Nat.le_refl 0, Nat.le_refl 17⟩
  | l + 1 => by
    have h1 := sNum_le (σ := σ) (t := t) (q := q) (P := P) (l := l) hP
    have h2 := sSf_le (σ := σ) (t := t) (q := q) hP l
    rw [sSf]; split
    · exact ⟨by omega, by show sNum σ t q P l ≤ 17; omega⟩
    · exact ⟨by omega, h2.2⟩
theorem wfS.lab {σ : Nat → Int32} {P T t : Nat} {u : Int32} (h : wfS σ P T) (hP : P ≤ 8) (ht : t < T) (hT : T ≤ 10) : wfS (upd σ (51 + 7 * t) u) P T := h.set (fun q _ z => by omega) (fun q _ z => by omega) (fun q _ z => by omega) (fun q _ z => by omega) (fun q _ z => by omega) (fun q _ z => by omega) (fun q _ z => by omega) (by omega) (fun _ _ => by omega)
section PAIR19
variable {d : Nat} {I : Nat → Nat → Int32} {x y : Option Nat}
theorem k_others {g P T t q : Nat} {s : Int32} {σ : Nat → Int32} (hg1 : g = 63) (hg : isF g) (h : relF g I σ P T) (hw : wfS σ P T) (ht : t < T) (hq : q < P) (ho : σ (50 + 7 * t) = nI q) : ∃ I1, aCall aMt (d + 7) 111 [.ref 0, .int (nI t), .int s] (HH I x y) = some (some (.int (nI (cnt (sOth σ s t q) P))), HH I1 x y) ∧ KF g I I1 := by
  have hP := h.1
  obtain ⟨I1, k1, k2⟩ := k_wanters (d := d) (x := x) (y := y) (v := nI t) (s := s) hg h hw.ok hw.th
  have hb : bS (sWs σ s (nI t)) P < 256 := by
    have h1 := bS_lt (sWs σ s (nI t)) P
    have h2 : 2 ^ P ≤ 2 ^ 8 := Nat.pow_le_pow_right (by decide) hP.1
    omega
  have e := nI_andn (q := q) (by omega) hb
  rw [bS_andn hP.1] at e
  have kb := k_bits (d := d + 5) (H := HH I1 x y) (bS_1024 (g := fun p => sWs σ s (nI t) p && !decide (p = q)) (P := P) (by omega))
  rw [pop_bS _ (by omega)] at kb
  refine ⟨I1, ?_, k2⟩
  rw [e_111]
  simp [s_111, aILoad, aRLoad, aLLoad, aIStore, aRStore, aPush, aBin, aBinL, aShL, aUn, aIf, aIc, aGet, aPut, aIald, aBald, aAald, aIast, aBast, aAast, aAlen, aCopy, aCallV, aCallC, aCallI, aRet, aCat, aMax, aMin, aDiv, aRem, aI2l, aL2i, aNul, aSwS, aSw, aInc, aDup, aDup2, aPop1, aIret, aAret, aVret, aLen, aFk, aFT, Value.category, c_sh, c_h hg1, f_sh hg, f_p hg, f_tp hg (show t < 10 by omega), f_th hg (show t < 10 by omega), h.th ht, ho, toNat_nI (show t < 2 ^ 31 by omega), nI_lt0 (show t < 2 ^ 31 by omega), show ¬ 10 ≤ t by omega, k1, e, kb, show sOth σ s t q = (fun p => sWs σ s (nI t) p && !decide (p = q)) from rfl]
theorem k_safe_loop {g P T t q : Nat} {rf : Nat} {I0 : Nat → Nat → Int32} {σ : Nat → Int32} (hg1 : g = 63) (hg : isF g) (hP : P ≤ 8) (hT : T ≤ 10) (hw : wfS σ P T) (ht : t < T) (hq : q < P) (ho : σ (50 + 7 * t) = nI q) : ∀ k l (u : Int32) (I : Nat → Nat → Int32) (l6 : Option Value), l + k = 3 → relF g I (upd σ (51 + 7 * t) u) P T → KG g I0 I →
    ∃ I1, aGo (aCall aMt (d + 7)) none cd_85 0 54 [some (.ref 0), some (.int (nI t)), some (.ref rf), some (.int (nI (sSf σ t q P l).1)), some (.int (nI (sSf σ t q P l).2)), some (.int (nI l)), l6] [] (HH I x y) = some (some (.int (nI (sSf σ t q P 3).1)), HH I1 x y) ∧ kF g I1 ∧ KG g I0 I1 := by
  intro k
  induction k with
  | zero =>
    intro l u I l6 hl hr hk
    obtain rfl : l = 3 := by omega
    have g1 : (2 : Int32) < nI 3 := by decide
    refine ⟨I, ?_, hr.k, hk⟩
    rw [s_85_54]
    simp [s_85, aILoad, aRLoad, aLLoad, aIStore, aRStore, aPush, aBin, aBinL, aShL, aUn, aIf, aIc, aGet, aPut, aIald, aBald, aAald, aIast, aBast, aAast, aAlen, aCopy, aCallV, aCallC, aCallI, aRet, aCat, aMax, aMin, aDiv, aRem, aI2l, aL2i, aNul, aSwS, aSw, aInc, aDup, aDup2, aPop1, aIret, aAret, aVret, aLen, aFk, aFT, Value.category, g1]
  | succ k ih =>
    intro l u I l6 hl hr hk
    have g1 : ¬ (2 : Int32) < nI l := nI_nlt (a := 2) (by omega) (by omega)
    have hr2 : relF g (aUpd I (g + 21 + t) 1 (nI l)) (upd σ (51 + 7 * t) (nI l)) P T := by
      have z := hr.setT' (j := 1) (k := 51 + 7 * t) (v := nI l) ht (by omega) (by omega)
      rwa [upd_upd] at z
    have ho2 : upd σ (51 + 7 * t) (nI l) (50 + 7 * t) = nI q := by rw [upd_ne (by omega)]; exact ho
    have hw2 := hw.lab (u := nI l) hP ht hT
    obtain ⟨I2, p1, p2⟩ := k_others (d := d) (x := x) (y := y) (s := 0) hg1 hg hr2 hw2 ht hq ho2
    have hr3 := hr2.kf p2
    obtain ⟨I3, p3, p4⟩ := k_others (d := d) (x := x) (y := y) (s := 1) hg1 hg hr3 hw2 ht hq ho2
    have hr4 := hr3.kf p4
    have hk4 : KG g I0 I3 := ((hk.upd (a := g + 21 + t) (k := 1) (v := nI l) (by omega) (by omega)).trans p2.g).trans p4.g
    have tt := toNat_nI (show t < 2 ^ 31 by omega)
    have nt := nI_lt0 (show t < 2 ^ 31 by omega)
    have lt : ¬ 10 ≤ t := by omega
    have hn := sNum_le (σ := σ) (t := t) (q := q) (P := P) (l := l) hP
    have hs := (sSf_le (σ := σ) (t := t) (q := q) hP l).2
    have es : cnt (sOth (upd σ (51 + 7 * t) (nI l)) 0 t q) P + cnt (sOth (upd σ (51 + 7 * t) (nI l)) 1 t q) P = sNum σ t q P l := rfl
    obtain ⟨I1, r1, r2⟩ := ih (l + 1) (nI l) I3 (some (.int (nI (sNum σ t q P l)))) (by omega) hr4 hk4
    refine ⟨I1, ?_, r2⟩
    rw [s_85_54, ← r1]
    by_cases c : sNum σ t q P l < (sSf σ t q P l).2
    · have c1 : ¬ nI (sSf σ t q P l).2 ≤ nI (sNum σ t q P l) := nI_ge c (by omega)
      rw [show sSf σ t q P (l + 1) = (l, sNum σ t q P l) by rw [sSf, if_pos c]]
      simp [s_85, aILoad, aRLoad, aLLoad, aIStore, aRStore, aPush, aBin, aBinL, aShL, aUn, aIf, aIc, aGet, aPut, aIald, aBald, aAald, aIast, aBast, aAast, aAlen, aCopy, aCallV, aCallC, aCallI, aRet, aCat, aMax, aMin, aDiv, aRem, aI2l, aL2i, aNul, aSwS, aSw, aInc, aDup, aDup2, aPop1, aIret, aAret, aVret, aLen, aFk, aFT, Value.category, c_sh, c_h hg1, f_sh hg, f_p hg, f_tp hg (show t < 10 by omega), f_th hg (show t < 10 by omega), g1, tt, nt, lt, p1, p3, nI_add, es, c1, nI_1]
    · have c1 : nI (sSf σ t q P l).2 ≤ nI (sNum σ t q P l) := nI_le (by omega) (by omega)
      rw [show sSf σ t q P (l + 1) = sSf σ t q P l by rw [sSf, if_neg c]]
      simp [s_85, aILoad, aRLoad, aLLoad, aIStore, aRStore, aPush, aBin, aBinL, aShL, aUn, aIf, aIc, aGet, aPut, aIald, aBald, aAald, aIast, aBast, aAast, aAlen, aCopy, aCallV, aCallC, aCallI, aRet, aCat, aMax, aMin, aDiv, aRem, aI2l, aL2i, aNul, aSwS, aSw, aInc, aDup, aDup2, aPop1, aIret, aAret, aVret, aLen, aFk, aFT, Value.category, c_sh, c_h hg1, f_sh hg, f_p hg, f_tp hg (show t < 10 by omega), f_th hg (show t < 10 by omega), g1, tt, nt, lt, p1, p3, nI_add, es, c1, nI_1]
theorem r_oth_loop {P T t q : Nat} {I0 : Nat → Nat → Int32} (hP : P ≤ 8) (hT : T ≤ 10) (ht : t < T) (h7 : I0 114 7 = nI P) (h8 : I0 114 8 = nI T) (hok : okT (I0 114)) (ho : I0 114 (50 + 7 * t) = nI q) (hq : q < P) : ∀ k p (I : Nat → Nat → Int32) (l4 : Option Value), p + k = P → RF I0 I →
    ∃ I1, aGo (aCall aMt (d + 8)) none cd_184 0 4 [some (.ref 113), some (.int (nI t)), some (.int (nI (cnt (sOth (I0 114) 0 t q) p + cnt (sOth (I0 114) 1 t q) p))), some (.int (nI p)), l4] [] (HH I x y) = some (some (.int (nI (cnt (sOth (I0 114) 0 t q) P + cnt (sOth (I0 114) 1 t q) P))), HH I1 x y) ∧ RF I0 I1 := by
  intro k
  induction k with
  | zero =>
    intro p I l4 hp hk
    obtain rfl : p = P := by omega
    refine ⟨I, ?_, hk⟩
    rw [s_184_4]
    simp [s_184, aILoad, aRLoad, aLLoad, aIStore, aRStore, aPush, aBin, aBinL, aShL, aUn, aIf, aIc, aGet, aPut, aIald, aBald, aAald, aIast, aBast, aAast, aAlen, aCopy, aCallV, aCallC, aCallI, aRet, aCat, aMax, aMin, aDiv, aRem, aI2l, aL2i, aNul, aSwS, aSw, aInc, aDup, aDup2, aPop1, aIret, aAret, aVret, aLen, aFk, aFT, Value.category, m_sh, m_p, hk.a, h7]
  | succ k ih =>
    intro p I l4 hp hk
    have g1 : ¬ nI P ≤ nI p := nI_ge (by omega) (by omega)
    have e := hk.a
    by_cases hpq : p = q
    · subst hpq
      obtain ⟨I1, r1, r2⟩ := ih (p + 1) I (some (.int 0)) (by omega) hk
      refine ⟨I1, ?_, r2⟩
      have s0 : sOth (I0 114) 0 t p p = false := by simp [sOth]
      have s1 : sOth (I0 114) 1 t p p = false := by simp [sOth]
      have ee : cnt (sOth (I0 114) 0 t p) (p + 1) + cnt (sOth (I0 114) 1 t p) (p + 1) = cnt (sOth (I0 114) 0 t p) p + cnt (sOth (I0 114) 1 t p) p := by
        simp only [cnt, s0, s1, Bool.false_eq_true, if_false]; omega
      rw [s_184_4, ← r1, ee]
      simp [s_184, aILoad, aRLoad, aLLoad, aIStore, aRStore, aPush, aBin, aBinL, aShL, aUn, aIf, aIc, aGet, aPut, aIald, aBald, aAald, aIast, aBast, aAast, aAlen, aCopy, aCallV, aCallC, aCallI, aRet, aCat, aMax, aMin, aDiv, aRem, aI2l, aL2i, aNul, aSwS, aSw, aInc, aDup, aDup2, aPop1, aIret, aAret, aVret, aLen, aFk, aFT, Value.category, m_sh, m_p, e, h7, g1, r_of (show t < 10 by omega), ho, nI_1]
    · have hne : ¬ nI p = nI q := fun z => hpq ((nI_eq (by omega) (by omega)).mp z)
      obtain ⟨I2, h3, h4⟩ := r_wanted (d := d) (x := x) (y := y) (I := I) (p := p) (s := 0) (by omega) hT (by rw [hk.a]; exact h8) (by rw [hk.a]; exact hok)
      have hk2 := hk.trans h4
      obtain ⟨I3, h5, h6⟩ := r_wanted (d := d) (x := x) (y := y) (I := I2) (p := p) (s := 1) (by omega) hT (by rw [hk2.a]; exact h8) (by rw [hk2.a]; exact hok)
      rw [hk.a] at h3
      rw [hk2.a] at h5
      obtain ⟨I1, r1, r2⟩ := ih (p + 1) I3 (some (.int 1)) (by omega) (hk2.trans h6)
      refine ⟨I1, ?_, r2⟩
      rw [s_184_4, ← r1]
      by_cases c0 : sWant (I0 114) p 0 = nI t <;> by_cases c1 : sWant (I0 114) p 1 = nI t
      · have ee : cnt (sOth (I0 114) 0 t q) (p + 1) + cnt (sOth (I0 114) 1 t q) (p + 1) = cnt (sOth (I0 114) 0 t q) p + cnt (sOth (I0 114) 1 t q) p + 1 + 1 := by
          simp only [cnt, show sOth (I0 114) 0 t q p = true by simp [sOth, sWs, c0, hpq], show sOth (I0 114) 1 t q p = true by simp [sOth, sWs, c1, hpq], if_true]; omega
        rw [ee]
        simp [s_184, aILoad, aRLoad, aLLoad, aIStore, aRStore, aPush, aBin, aBinL, aShL, aUn, aIf, aIc, aGet, aPut, aIald, aBald, aAald, aIast, aBast, aAast, aAlen, aCopy, aCallV, aCallC, aCallI, aRet, aCat, aMax, aMin, aDiv, aRem, aI2l, aL2i, aNul, aSwS, aSw, aInc, aDup, aDup2, aPop1, aIret, aAret, aVret, aLen, aFk, aFT, Value.category, m_sh, m_p, e, h7, g1, r_of (show t < 10 by omega), ho, hne, h3, h5, c0, c1, nI_1]
      · have ee : cnt (sOth (I0 114) 0 t q) (p + 1) + cnt (sOth (I0 114) 1 t q) (p + 1) = cnt (sOth (I0 114) 0 t q) p + cnt (sOth (I0 114) 1 t q) p + 1 := by
          simp only [cnt, show sOth (I0 114) 0 t q p = true by simp [sOth, sWs, c0, hpq], show sOth (I0 114) 1 t q p = false by simp [sOth, sWs, c1], if_true, Bool.false_eq_true, if_false]; omega
        rw [ee]
        simp [s_184, aILoad, aRLoad, aLLoad, aIStore, aRStore, aPush, aBin, aBinL, aShL, aUn, aIf, aIc, aGet, aPut, aIald, aBald, aAald, aIast, aBast, aAast, aAlen, aCopy, aCallV, aCallC, aCallI, aRet, aCat, aMax, aMin, aDiv, aRem, aI2l, aL2i, aNul, aSwS, aSw, aInc, aDup, aDup2, aPop1, aIret, aAret, aVret, aLen, aFk, aFT, Value.category, m_sh, m_p, e, h7, g1, r_of (show t < 10 by omega), ho, hne, h3, h5, c0, c1, nI_1]
      · have ee : cnt (sOth (I0 114) 0 t q) (p + 1) + cnt (sOth (I0 114) 1 t q) (p + 1) = cnt (sOth (I0 114) 0 t q) p + cnt (sOth (I0 114) 1 t q) p + 1 := by
          simp only [cnt, show sOth (I0 114) 0 t q p = false by simp [sOth, sWs, c0], show sOth (I0 114) 1 t q p = true by simp [sOth, sWs, c1, hpq], if_true, Bool.false_eq_true, if_false]; omega
        rw [ee]
        simp [s_184, aILoad, aRLoad, aLLoad, aIStore, aRStore, aPush, aBin, aBinL, aShL, aUn, aIf, aIc, aGet, aPut, aIald, aBald, aAald, aIast, aBast, aAast, aAlen, aCopy, aCallV, aCallC, aCallI, aRet, aCat, aMax, aMin, aDiv, aRem, aI2l, aL2i, aNul, aSwS, aSw, aInc, aDup, aDup2, aPop1, aIret, aAret, aVret, aLen, aFk, aFT, Value.category, m_sh, m_p, e, h7, g1, r_of (show t < 10 by omega), ho, hne, h3, h5, c0, c1, nI_1]
      · have ee : cnt (sOth (I0 114) 0 t q) (p + 1) + cnt (sOth (I0 114) 1 t q) (p + 1) = cnt (sOth (I0 114) 0 t q) p + cnt (sOth (I0 114) 1 t q) p := by
          simp only [cnt, show sOth (I0 114) 0 t q p = false by simp [sOth, sWs, c0], show sOth (I0 114) 1 t q p = false by simp [sOth, sWs, c1], Bool.false_eq_true, if_false]; omega
        rw [ee]
        simp [s_184, aILoad, aRLoad, aLLoad, aIStore, aRStore, aPush, aBin, aBinL, aShL, aUn, aIf, aIc, aGet, aPut, aIald, aBald, aAald, aIast, aBast, aAast, aAlen, aCopy, aCallV, aCallC, aCallI, aRet, aCat, aMax, aMin, aDiv, aRem, aI2l, aL2i, aNul, aSwS, aSw, aInc, aDup, aDup2, aPop1, aIret, aAret, aVret, aLen, aFk, aFT, Value.category, m_sh, m_p, e, h7, g1, r_of (show t < 10 by omega), ho, hne, h3, h5, c0, c1, nI_1]
theorem r_others {P T t q : Nat} (hP : P ≤ 8) (hT : T ≤ 10) (ht : t < T) (h7 : I 114 7 = nI P) (h8 : I 114 8 = nI T) (hok : okT (I 114)) (ho : I 114 (50 + 7 * t) = nI q) (hq : q < P) : ∃ I1, aCall aMt (d + 9) 184 [.ref 113, .int (nI t)] (HH I x y) = some (some (.int (nI (cnt (sOth (I 114) 0 t q) P + cnt (sOth (I 114) 1 t q) P))), HH I1 x y) ∧ RF I I1 := by
  obtain ⟨I1, r1, r2⟩ := r_oth_loop (d := d) (x := x) (y := y) hP hT ht h7 h8 hok ho hq P 0 I none (by omega) RF.rf
  refine ⟨I1, ?_, r2⟩
  rw [cnt, cnt, Nat.add_zero, nI_lit0] at r1
  rw [e_184, ← r1]
  simp [s_184, aILoad, aRLoad, aLLoad, aIStore, aRStore, aPush, aBin, aBinL, aShL, aUn, aIf, aIc, aGet, aPut, aIald, aBald, aAald, aIast, aBast, aAast, aAlen, aCopy, aCallV, aCallC, aCallI, aRet, aCat, aMax, aMin, aDiv, aRem, aI2l, aL2i, aNul, aSwS, aSw, aInc, aDup, aDup2, aPop1, aIret, aAret, aVret, aLen, aFk, aFT, Value.category]
theorem r_safe_loop {P T t q : Nat} {I0 : Nat → Nat → Int32} {σ : Nat → Int32} (hP : P ≤ 8) (hT : T ≤ 10) (hw : wfS σ P T) (h7 : σ 7 = nI P) (h8 : σ 8 = nI T) (ht : t < T) (hq : q < P) (ho : σ (50 + 7 * t) = nI q) : ∀ k l (u b fw : Int32) (I : Nat → Nat → Int32) (l6 l7 : Option Value), l + k = 3 → (l = 0 ∧ b = -1 ∧ fw = 0 ∨ 1 ≤ l ∧ b = nI (sSf σ t q P l).1 ∧ fw = nI (sSf σ t q P l).2) → I 114 = upd σ (51 + 7 * t) u → RG I0 I →
    ∃ I1, aGo (aCall aMt (d + 9)) none cd_185 0 43 [some (.ref 113), some (.int (nI t)), some (.int (σ (51 + 7 * t))), some (.int b), some (.int fw), some (.int (nI l)), l6, l7] [] (HH I x y) = some (some (.int (nI (sSf σ t q P 3).1)), HH I1 x y) ∧ I1 114 = σ ∧ RG I0 I1 := by
  have a1 : 50 + 7 * t + 1 = 51 + 7 * t := by omega
  intro k
  induction k with
  | zero =>
    intro l u b fw I l6 l7 hl hs hr hk
    obtain rfl : l = 3 := by omega
    obtain ⟨_, rfl, rfl⟩ := hs.resolve_left (fun z => by omega)
    have g1 : (2 : Int32) < nI 3 := by decide
    refine ⟨aUpd I 114 (51 + 7 * t) (σ (51 + 7 * t)), ?_, by rw [aUpd_row, hr, upd_upd, upd_self rfl], hk.upd⟩
    rw [s_185_43]
    simp [s_185, aILoad, aRLoad, aLLoad, aIStore, aRStore, aPush, aBin, aBinL, aShL, aUn, aIf, aIc, aGet, aPut, aIald, aBald, aAald, aIast, aBast, aAast, aAlen, aCopy, aCallV, aCallC, aCallI, aRet, aCat, aMax, aMin, aDiv, aRem, aI2l, aL2i, aNul, aSwS, aSw, aInc, aDup, aDup2, aPop1, aIret, aAret, aVret, aLen, aFk, aFT, Value.category, m_sh, m_p, g1, r_lays2 (show t < 10 by omega), a1]
  | succ k ih =>
    intro l u b fw I l6 l7 hl hs hr hk
    have g1 : ¬ (2 : Int32) < nI l := nI_nlt (a := 2) (by omega) (by omega)
    have e114 : aUpd I 114 (51 + 7 * t) (nI l) 114 = upd σ (51 + 7 * t) (nI l) := by rw [aUpd_row, hr, upd_upd]
    obtain ⟨I2, p1, p2⟩ := r_others (d := d) (I := aUpd I 114 (51 + 7 * t) (nI l)) (x := x) (y := y) (P := P) (T := T) (t := t) (q := q) hP hT ht (by rw [e114, upd_ne (by omega)]; exact h7) (by rw [e114, upd_ne (by omega)]; exact h8) (by rw [e114]; exact (hw.lab hP ht hT).ok) (by rw [e114, upd_ne (by omega)]; exact ho) hq
    rw [e114] at p1
    have es : cnt (sOth (upd σ (51 + 7 * t) (nI l)) 0 t q) P + cnt (sOth (upd σ (51 + 7 * t) (nI l)) 1 t q) P = sNum σ t q P l := rfl
    rw [es] at p1
    have hn := sNum_le (σ := σ) (t := t) (q := q) (P := P) (l := l) hP
    have hf := sSf_le (σ := σ) (t := t) (q := q) hP l
    have h2 : I2 114 = upd σ (51 + 7 * t) (nI l) := by rw [p2.a]; exact e114
    have hk2 : RG I0 I2 := (hk.upd (k := 51 + 7 * t) (v := nI l)).trans p2.g
    rw [s_185_43]
    by_cases c : sNum σ t q P l < (sSf σ t q P l).2
    · have e1 : sSf σ t q P (l + 1) = (l, sNum σ t q P l) := by rw [sSf, if_pos c]
      obtain ⟨I1, r1, r2⟩ := ih (l + 1) (nI l) (nI l) (nI (sNum σ t q P l)) I2 (some (.int (nI (sNum σ t q P l)))) (some (.int 1)) (by omega) (Or.inr ⟨by omega, by rw [e1], by rw [e1]⟩) h2 hk2
      refine ⟨I1, ?_, r2⟩
      rw [← r1]
      rcases hs with ⟨_, rfl, rfl⟩ | ⟨h0, rfl, rfl⟩
      · simp [s_185, aILoad, aRLoad, aLLoad, aIStore, aRStore, aPush, aBin, aBinL, aShL, aUn, aIf, aIc, aGet, aPut, aIald, aBald, aAald, aIast, aBast, aAast, aAlen, aCopy, aCallV, aCallC, aCallI, aRet, aCat, aMax, aMin, aDiv, aRem, aI2l, aL2i, aNul, aSwS, aSw, aInc, aDup, aDup2, aPop1, aIret, aAret, aVret, aLen, aFk, aFT, Value.category, m_sh, m_p, g1, r_lays2 (show t < 10 by omega), a1, p1, nI_1]
      · have c1 : ¬ nI (sSf σ t q P l).2 ≤ nI (sNum σ t q P l) := nI_ge c (by omega)
        simp [s_185, aILoad, aRLoad, aLLoad, aIStore, aRStore, aPush, aBin, aBinL, aShL, aUn, aIf, aIc, aGet, aPut, aIald, aBald, aAald, aIast, aBast, aAast, aAlen, aCopy, aCallV, aCallC, aCallI, aRet, aCat, aMax, aMin, aDiv, aRem, aI2l, aL2i, aNul, aSwS, aSw, aInc, aDup, aDup2, aPop1, aIret, aAret, aVret, aLen, aFk, aFT, Value.category, m_sh, m_p, g1, r_lays2 (show t < 10 by omega), a1, p1, nI_m1 (n := (sSf σ t q P l).1) (by omega), c1, nI_1]
    · rcases hs with ⟨rfl, rfl, rfl⟩ | ⟨h0, rfl, rfl⟩
      · exfalso
        have : (sSf σ t q P 0).2 = 17 := rfl
        omega
      · have e1 : sSf σ t q P (l + 1) = sSf σ t q P l := by rw [sSf, if_neg c]
        obtain ⟨I1, r1, r2⟩ := ih (l + 1) (nI l) (nI (sSf σ t q P l).1) (nI (sSf σ t q P l).2) I2 (some (.int (nI (sNum σ t q P l)))) (some (.int 0)) (by omega) (Or.inr ⟨by omega, by rw [e1], by rw [e1]⟩) h2 hk2
        refine ⟨I1, ?_, r2⟩
        rw [← r1]
        have c1 : nI (sSf σ t q P l).2 ≤ nI (sNum σ t q P l) := nI_le (by omega) (by omega)
        simp [s_185, aILoad, aRLoad, aLLoad, aIStore, aRStore, aPush, aBin, aBinL, aShL, aUn, aIf, aIc, aGet, aPut, aIald, aBald, aAald, aIast, aBast, aAast, aAlen, aCopy, aCallV, aCallC, aCallI, aRet, aCat, aMax, aMin, aDiv, aRem, aI2l, aL2i, aNul, aSwS, aSw, aInc, aDup, aDup2, aPop1, aIret, aAret, aVret, aLen, aFk, aFT, Value.category, m_sh, m_p, g1, r_lays2 (show t < 10 by omega), a1, p1, nI_m1 (n := (sSf σ t q P l).1) (by omega), c1, nI_1]
theorem pair_safest (v : Int32) : Pair 85 185 [.int v] := by
  intro d I x y h
  obtain ⟨f, P, T, h1, hf, hA⟩ := h.f
  obtain ⟨g, hg1⟩ : ∃ g, g = 63 := ⟨63, rfl⟩
  have hg := isF_63 hg1
  have hP := hA.1.1
  have e7 := hA.1.fi.2.2.1
  have e8 := hA.1.fi.2.2.2.1
  by_cases hp : 0 ≤ v ∧ v ≤ nI T - 1
  · obtain ⟨t, ht, rfl⟩ := (isIx (by omega)).mp hp
    have pa := k_thingAt (d := d + 17) (x := x) (y := y) hf hA.1 ht
    have pe := hA.1.th ht
    have s1 := f_th hf (show t < 10 by omega)
    rcases (hA.2.2.2.1 t ht).2.2 with hi | ⟨hi, _⟩
    · refine Pair.ref 3 (-1000000003) h ?_ (fun I' hI => ?_)
      · rw [e_85]; simp [s_85, aILoad, aRLoad, aLLoad, aIStore, aRStore, aPush, aBin, aBinL, aShL, aUn, aIf, aIc, aGet, aPut, aIald, aBald, aAald, aIast, aBast, aAast, aAlen, aCopy, aCallV, aCallC, aCallI, aRet, aCat, aMax, aMin, aDiv, aRem, aI2l, aL2i, aNul, aSwS, aSw, aInc, aDup, aDup2, aPop1, aIret, aAret, aVret, aLen, aFk, aFT, Value.category, c_sh, c_f h1, f_sh hf, pa, pe, s1, hi, rf_3]
      · have e8' : I' 114 8 = nI T := by rw [hI 114 (by decide)]; exact e8
        have hi' : I' 114 (55 + 7 * t) = 0 := by rw [hI 114 (by decide)]; exact hi
        rw [e_185]; simp [s_185, aILoad, aRLoad, aLLoad, aIStore, aRStore, aPush, aBin, aBinL, aShL, aUn, aIf, aIc, aGet, aPut, aIald, aBald, aAald, aIast, aBast, aAast, aAlen, aCopy, aCallV, aCallC, aCallI, aRet, aCat, aMax, aMin, aDiv, aRem, aI2l, aL2i, aNul, aSwS, aSw, aInc, aDup, aDup2, aPop1, aIret, aAret, aVret, aLen, aFk, aFT, Value.category, m_sh, m_p, r_isThing, e8', hp, r_isThere (show t < 10 by omega), hi', re_3]
    · obtain ⟨q, hq, ho⟩ := (hA.2.2.2.1 t ht).1
      obtain ⟨I1, c1, c2, c3⟩ := hA.cp (d := d + 17) (x := x) (y := y) hg hf (by omega) (by rw [hg1]; exact h.2.2.1)
      have c2' : relF g I1 (upd (I 114) (51 + 7 * t) (I 114 (51 + 7 * t))) P T := by rw [upd_self rfl]; exact c2.1
      obtain ⟨I2, k1, k2, k3⟩ := k_safe_loop (d := d + 12) (x := x) (y := y) (P := P) (T := T) (t := t) (q := q) (rf := f + 21 + t) (I0 := I1) (σ := I 114) hg1 hg hP.1 hP.2 hA.2.2 ht hq ho 3 0 _ I1 none (by omega) c2' KG.rf
      have er : ∀ r, r < 63 ∨ 93 < r → I2 r = I r := fun r hr => by rw [k3 r (by omega), c3 r (by omega)]
      have e114 : I2 114 = I 114 := er 114 (by omega)
      obtain ⟨I3, r1, r2, r3⟩ := r_safe_loop (d := d + 10) (x := x) (y := y) (P := P) (T := T) (t := t) (q := q) (I0 := I2) (σ := I 114) hP.1 hP.2 hA.2.2 e7 e8 ht hq ho 3 0 (I 114 (51 + 7 * t)) (-1) 0 I2 none none (by omega) (Or.inl ⟨rfl, rfl, rfl⟩) (by rw [upd_self rfl]; exact e114) RG.rf
      have a1 : 50 + 7 * t + 1 = 51 + 7 * t := by omega
      rw [show (sSf (I 114) t q P 0).1 = 0 from rfl, show (sSf (I 114) t q P 0).2 = 17 from rfl, nI_lit0, show nI 17 = (17 : Int32) from rfl] at k1
      rw [nI_lit0] at r1
      refine Pair.tho (v := nI (sSf (I 114) t q P 3).1) h ?_ ?_ er (by rwa [hg1] at k2) r2 (fun r a _ b c => r3 r a b c)
      · rw [e_85, ← k1]; simp [s_85, aILoad, aRLoad, aLLoad, aIStore, aRStore, aPush, aBin, aBinL, aShL, aUn, aIf, aIc, aGet, aPut, aIald, aBald, aAald, aIast, aBast, aAast, aAlen, aCopy, aCallV, aCallC, aCallI, aRet, aCat, aMax, aMin, aDiv, aRem, aI2l, aL2i, aNul, aSwS, aSw, aInc, aDup, aDup2, aPop1, aIret, aAret, aVret, aLen, aFk, aFT, Value.category, c_sh, c_f h1, c_h hg1, f_sh hf, f_sh hg, pa, pe, s1, hi, c1]
      · have e8' : I2 114 8 = nI T := by rw [e114]; exact e8
        rw [e_185, ← r1]; simp [s_185, aILoad, aRLoad, aLLoad, aIStore, aRStore, aPush, aBin, aBinL, aShL, aUn, aIf, aIc, aGet, aPut, aIald, aBald, aAald, aIast, aBast, aAast, aAlen, aCopy, aCallV, aCallC, aCallI, aRet, aCat, aMax, aMin, aDiv, aRem, aI2l, aL2i, aNul, aSwS, aSw, aInc, aDup, aDup2, aPop1, aIret, aAret, aVret, aLen, aFk, aFT, Value.category, m_sh, m_p, r_isThing, e8', hp, r_isThere (show t < 10 by omega), r_of (show t < 10 by omega), e114, hi, a1]
  · have pa := k_thingNo (d := d + 17) (x := x) (y := y) hf hA.1 hp
    refine Pair.ref 1 (-1000000001) h ?_ (fun I' hI => ?_)
    · rw [e_85]; simp [s_85, aILoad, aRLoad, aLLoad, aIStore, aRStore, aPush, aBin, aBinL, aShL, aUn, aIf, aIc, aGet, aPut, aIald, aBald, aAald, aIast, aBast, aAast, aAlen, aCopy, aCallV, aCallC, aCallI, aRet, aCat, aMax, aMin, aDiv, aRem, aI2l, aL2i, aNul, aSwS, aSw, aInc, aDup, aDup2, aPop1, aIret, aAret, aVret, aLen, aFk, aFT, Value.category, c_sh, c_f h1, f_sh hf, pa, rf_1]
    · have e8' : I' 114 8 = nI T := by rw [hI 114 (by decide)]; exact e8
      rw [e_185]; simp [s_185, aILoad, aRLoad, aLLoad, aIStore, aRStore, aPush, aBin, aBinL, aShL, aUn, aIf, aIc, aGet, aPut, aIald, aBald, aAald, aIast, aBast, aAast, aAlen, aCopy, aCallV, aCallC, aCallI, aRet, aCat, aMax, aMin, aDiv, aRem, aI2l, aL2i, aNul, aSwS, aSw, aInc, aDup, aDup2, aPop1, aIret, aAret, aVret, aLen, aFk, aFT, Value.category, m_sh, m_p, r_isThing, e8', hp, re_1]
end PAIR19
