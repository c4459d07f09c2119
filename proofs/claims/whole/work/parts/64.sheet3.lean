/-! the calls in pairs: move, labels -/
theorem aCpy_0 {I : Nat → Nat → Int32} {a b sp dp : Nat} : aCpy I a b sp dp 0 = I := by
  funext r j
  by_cases e : r = b
  · subst e; rw [show aCpy I a r sp dp 0 r j = va_cpy (I a) (I r) sp dp 0 j from if_pos rfl, pk_cpy_out (by omega)]
  · rw [cpy_ne e]
theorem aCpy_in {I : Nat → Nat → Int32} {a b sp dp n j : Nat} (h : dp ≤ j) (h2 : j < dp + n) : aCpy I a b sp dp n b j = I a (sp + (j - dp)) := by
  rw [show aCpy I a b sp dp n b j = va_cpy (I a) (I b) sp dp n j from if_pos rfl, pk_cpy_in h h2]
theorem aCpy_out {I : Nat → Nat → Int32} {a b sp dp n j : Nat} (h : j < dp ∨ dp + n ≤ j) : aCpy I a b sp dp n b j = I b j := by
  rw [show aCpy I a b sp dp n b j = va_cpy (I a) (I b) sp dp n j from if_pos rfl, pk_cpy_out h]
theorem aCpy_s {I : Nat → Nat → Int32} {a b sp dp n : Nat} : aUpd (aCpy I a b sp dp n) b (dp + n) (I a (sp + n)) = aCpy I a b sp dp (n + 1) := by
  funext r j
  by_cases e : r = b
  · subst e
    rw [aUpd_row]
    by_cases e2 : j = dp + n
    · subst e2; rw [upd_eq, aCpy_in (by omega) (by omega), Nat.add_sub_cancel_left]
    · rw [upd_ne e2]
      by_cases e3 : dp ≤ j ∧ j < dp + n
      · rw [aCpy_in e3.1 e3.2, aCpy_in e3.1 (by omega)]
      · rw [aCpy_out (by omega), aCpy_out (by omega)]
  · rw [aUpd_ne e, cpy_ne e, cpy_ne e]
theorem le_of_sub {n i : Int32} {a : Nat} (ha : a ≤ 24) (h0 : 0 ≤ n) (hi : 0 ≤ i) (h : i ≤ nI a - n) : n ≤ nI a := by
  obtain ⟨m, hm, rfl⟩ := nI_of (Int32.not_lt.mpr h0)
  have h1 := Int32.le_iff_toInt_le.mp (Int32.le_trans hi h)
  have h2 : (nI a - nI m).toInt = (a : Int) - m := by
    rw [Int32.toInt_sub, nI_toInt (show a < 2 ^ 31 by omega), nI_toInt hm]; exact Int.bmod_eq_of_le (by omega) (by omega)
  rw [h2, show (0 : Int32).toInt = 0 from rfl] at h1
  exact nI_le (by omega) (by omega)
theorem relS.mv {I J I2 : Nat → Nat → Int32} {s o a b n : Nat} (h : relS I I) (hs : s < 4) (ho : o < 4) (ha : a + n ≤ 24) (hb : b + n ≤ 24) (hJ : J = aCpy I (106 + 2 * s) (106 + 2 * o) a b n) (h2 : I2 = aCpy (aCpy J 126 127 (24 * s + a) 0 n) 127 126 0 (24 * o + b) n) : relS I2 I2 := by
  have a1 : ∀ r, r ≠ 126 → r ≠ 127 → I2 r = J r := fun r p q => by rw [h2, cpy_ne p, cpy_ne q]
  have a2 : ∀ r, r ≠ 106 + 2 * o → J r = I r := fun r q => by rw [hJ, cpy_ne q]
  have b1 : ∀ j, 24 * o + b ≤ j → j < 24 * o + b + n → I2 126 j = I 126 (24 * s + a + (j - (24 * o + b))) := fun j p q => by
    rw [h2, aCpy_in p q, Nat.zero_add, aCpy_in (Nat.zero_le _) (by omega), Nat.sub_zero, a2 126 (by omega)]
  have b2 : ∀ j, j < 24 * o + b ∨ 24 * o + b + n ≤ j → I2 126 j = I 126 j := fun j p => by
    rw [h2, aCpy_out p, cpy_ne (by omega), a2 126 (by omega)]
  intro i hi
  obtain ⟨p1, p2, p3, p4⟩ := h i hi
  rw [a1 _ (by omega) (by omega), a1 124 (by omega) (by omega), a1 125 (by omega) (by omega), a1 (106 + 2 * i) (by omega) (by omega), a2 (105 + 2 * i) (by omega), a2 124 (by omega), a2 125 (by omega)]
  refine ⟨p1, p2, p3, fun j hj => ?_⟩
  by_cases e : i = o
  · subst e
    by_cases e2 : b ≤ j ∧ j < b + n
    · rw [hJ, aCpy_in e2.1 e2.2, b1 _ (by omega) (by omega), (h s hs).2.2.2 _ (by omega)]
      congr 1; omega
    · rw [hJ, aCpy_out (by omega), b2 _ (by omega)]; exact p4 j hj
  · rw [a2 _ (by omega), b2 _ (by omega)]; exact p4 j hj
section SHEET3
variable {d : Nat} {I : Nat → Nat → Int32} {x y : Option Nat}
theorem r_aside_loop {s a n : Nat} {l3 l4 : Option Value} (hs : s < 4) (ha : a + n ≤ 24) : ∀ k i, i + k = n →
    aGo (aCall aMt d) none cd_209 0 115 [some (.ref 113), some (.int (nI s)), some (.int (nI a)), l3, l4, some (.int (nI n)), some (.int (nI i))] [] (HH (aCpy I 126 127 (24 * s + a) 0 i) x y) = aGo (aCall aMt d) none cd_209 0 152 [some (.ref 113), some (.int (nI s)), some (.int (nI a)), l3, l4, some (.int (nI n)), some (.int 0)] [] (HH (aCpy I 126 127 (24 * s + a) 0 n) x y) := by
  intro k
  induction k with
  | zero =>
    intro i hi
    obtain rfl : i = n := by omega
    rw [s_209_115]
    simp [s_209, aILoad, aRLoad, aLLoad, aIStore, aRStore, aPush, aBin, aBinL, aShL, aUn, aIf, aIc, aGet, aPut, aIald, aBald, aAald, aIast, aBast, aAast, aAlen, aCopy, aCallV, aCallC, aCallI, aRet, aCat, aMax, aMin, aDiv, aRem, aI2l, aL2i, aNul, aSwS, aSw, aInc, aDup, aDup2, aPop1, aIret, aAret, aVret, aLen, aFk, aFT, Value.category]
  | succ k ih =>
    intro i hi
    have g1 : ¬ nI n ≤ nI i := nI_ge (by omega) (by omega)
    have g := ih (i + 1) (by omega)
    rw [← aCpy_s, Nat.zero_add] at g
    have ix : (24 : Int32) * nI s + nI a + nI i = nI (24 * s + a + i) := by rw [show (24 : Int32) = nI 24 from rfl, pk_mul, nI_add, nI_add]
    have e126 : aCpy I 126 127 (24 * s + a) 0 i 126 = I 126 := cpy_ne (by omega)
    rw [s_209_115, ← g]
    simp [s_209, aILoad, aRLoad, aLLoad, aIStore, aRStore, aPush, aBin, aBinL, aShL, aUn, aIf, aIc, aGet, aPut, aIald, aBald, aAald, aIast, aBast, aAast, aAlen, aCopy, aCallV, aCallC, aCallI, aRet, aCat, aMax, aMin, aDiv, aRem, aI2l, aL2i, aNul, aSwS, aSw, aInc, aDup, aDup2, aPop1, aIret, aAret, aVret, aLen, aFk, aFT, Value.category, m_sh, m_p, g1, ix, e126, toNat_nI (show 24 * s + a + i < 2 ^ 31 by omega), nI_lt0 (show 24 * s + a + i < 2 ^ 31 by omega), show ¬ 96 ≤ 24 * s + a + i by omega, toNat_nI (show i < 2 ^ 31 by omega), nI_lt0 (show i < 2 ^ 31 by omega), show ¬ 24 ≤ i by omega, nI_1]
theorem r_back_loop {o b n : Nat} {l1 l2 : Option Value} (ho : o < 4) (hb : b + n ≤ 24) : ∀ k i, i + k = n →
    aGo (aCall aMt d) none cd_209 0 152 [some (.ref 113), l1, l2, some (.int (nI o)), some (.int (nI b)), some (.int (nI n)), some (.int (nI i))] [] (HH (aCpy I 127 126 0 (24 * o + b) i) x y) = some (some (.int (nI n)), HH (aCpy I 127 126 0 (24 * o + b) n) x y) := by
  intro k
  induction k with
  | zero =>
    intro i hi
    obtain rfl : i = n := by omega
    rw [s_209_152]
    simp [s_209, aILoad, aRLoad, aLLoad, aIStore, aRStore, aPush, aBin, aBinL, aShL, aUn, aIf, aIc, aGet, aPut, aIald, aBald, aAald, aIast, aBast, aAast, aAlen, aCopy, aCallV, aCallC, aCallI, aRet, aCat, aMax, aMin, aDiv, aRem, aI2l, aL2i, aNul, aSwS, aSw, aInc, aDup, aDup2, aPop1, aIret, aAret, aVret, aLen, aFk, aFT, Value.category]
  | succ k ih =>
    intro i hi
    have g1 : ¬ nI n ≤ nI i := nI_ge (by omega) (by omega)
    have g := ih (i + 1) (by omega)
    rw [← aCpy_s, Nat.zero_add] at g
    have ix : (24 : Int32) * nI o + nI b + nI i = nI (24 * o + b + i) := by rw [show (24 : Int32) = nI 24 from rfl, pk_mul, nI_add, nI_add]
    have e127 : aCpy I 127 126 0 (24 * o + b) i 127 = I 127 := cpy_ne (by omega)
    rw [s_209_152, ← g]
    simp [s_209, aILoad, aRLoad, aLLoad, aIStore, aRStore, aPush, aBin, aBinL, aShL, aUn, aIf, aIc, aGet, aPut, aIald, aBald, aAald, aIast, aBast, aAast, aAlen, aCopy, aCallV, aCallC, aCallI, aRet, aCat, aMax, aMin, aDiv, aRem, aI2l, aL2i, aNul, aSwS, aSw, aInc, aDup, aDup2, aPop1, aIret, aAret, aVret, aLen, aFk, aFT, Value.category, m_sh, m_p, g1, ix, e127, toNat_nI (show 24 * o + b + i < 2 ^ 31 by omega), nI_lt0 (show 24 * o + b + i < 2 ^ 31 by omega), show ¬ 96 ≤ 24 * o + b + i by omega, toNat_nI (show i < 2 ^ 31 by omega), nI_lt0 (show i < 2 ^ 31 by omega), show ¬ 24 ≤ i by omega, nI_1]
theorem pair_move (v i w j n : Int32) : Pair 96 209 [.int v, .int i, .int w, .int j, .int n] := by
  intro d I x y h
  have hS := h.2.2.2.2.1
  by_cases hv : 0 ≤ v ∧ v ≤ 3
  · obtain ⟨s, hs3, rfl⟩ := in_0n (n := 3) rfl (by omega) hv
    have hs : s < 4 := by omega
    have sa := k_sheetAt (d := d + 17) (x := x) (y := y) (I := I) hs
    have ts := toNat_nI (show s < 2 ^ 31 by omega)
    have ns := nI_lt0 (show s < 2 ^ 31 by omega)
    have l4 : ¬ 4 ≤ s := by omega
    by_cases hw : 0 ≤ w ∧ w ≤ 3
    · obtain ⟨o, ho3, rfl⟩ := in_0n (n := 3) rfl (by omega) hw
      have ho : o < 4 := by omega
      have so := k_sheetAt (d := d + 17) (x := x) (y := y) (I := I) ho
      have kms := k_missing (d := d + 18) (x := x) (y := y) (I := I) hs
      have kmo := k_missing (d := d + 18) (x := x) (y := y) (I := I) ho
      have to := toNat_nI (show o < 2 ^ 31 by omega)
      have no := nI_lt0 (show o < 2 ^ 31 by omega)
      have m4 : ¬ 4 ≤ o := by omega
      obtain ⟨q1, q2, ⟨a, ha, q3, q4⟩, q5⟩ := hS s hs
      obtain ⟨u1, u2, ⟨b, hb, u3, u4⟩, u5⟩ := hS o ho
      by_cases h0 : I 124 s = 0
      · have c0 : I (105 + 2 * s) 1 = 0 := q1.trans h0
        refine Pair.ref 2 (-1000000002) h ?_ (fun I' hI => ?_)
        · rw [e_96]; simp [s_96, aILoad, aRLoad, aLLoad, aIStore, aRStore, aPush, aBin, aBinL, aShL, aUn, aIf, aIc, aGet, aPut, aIald, aBald, aAald, aIast, aBast, aAast, aAlen, aCopy, aCallV, aCallC, aCallI, aRet, aCat, aMax, aMin, aDiv, aRem, aI2l, aL2i, aNul, aSwS, aSw, aInc, aDup, aDup2, aPop1, aIret, aAret, aVret, aLen, aFk, aFT, Value.category, c_sh, sa, so, sh_sh hs, kms, c0, rf_2]
        · have h0' : I' 124 s = 0 := by rw [hI 124 (by decide)]; exact h0
          rw [e_209]; simp [s_209, aILoad, aRLoad, aLLoad, aIStore, aRStore, aPush, aBin, aBinL, aShL, aUn, aIf, aIc, aGet, aPut, aIald, aBald, aAald, aIast, aBast, aAast, aAlen, aCopy, aCallV, aCallC, aCallI, aRet, aCat, aMax, aMin, aDiv, aRem, aI2l, aL2i, aNul, aSwS, aSw, aInc, aDup, aDup2, aPop1, aIret, aAret, aVret, aLen, aFk, aFT, Value.category, m_sh, m_p, r_isSheet, hv, hw, ts, ns, l4, h0', re_2]
      · have c0 : ¬ I (105 + 2 * s) 1 = 0 := fun z => h0 (q1.symm.trans z)
        by_cases h1 : I 124 o = 0
        · have c1 : I (105 + 2 * o) 1 = 0 := u1.trans h1
          refine Pair.ref 2 (-1000000002) h ?_ (fun I' hI => ?_)
          · rw [e_96]; simp [s_96, aILoad, aRLoad, aLLoad, aIStore, aRStore, aPush, aBin, aBinL, aShL, aUn, aIf, aIc, aGet, aPut, aIald, aBald, aAald, aIast, aBast, aAast, aAlen, aCopy, aCallV, aCallC, aCallI, aRet, aCat, aMax, aMin, aDiv, aRem, aI2l, aL2i, aNul, aSwS, aSw, aInc, aDup, aDup2, aPop1, aIret, aAret, aVret, aLen, aFk, aFT, Value.category, c_sh, sa, so, sh_sh hs, sh_sh ho, kms, kmo, c0, c1, rf_2]
          · have h0' : ¬ I' 124 s = 0 := by rw [hI 124 (by decide)]; exact h0
            have h1' : I' 124 o = 0 := by rw [hI 124 (by decide)]; exact h1
            rw [e_209]; simp [s_209, aILoad, aRLoad, aLLoad, aIStore, aRStore, aPush, aBin, aBinL, aShL, aUn, aIf, aIc, aGet, aPut, aIald, aBald, aAald, aIast, aBast, aAast, aAlen, aCopy, aCallV, aCallC, aCallI, aRet, aCat, aMax, aMin, aDiv, aRem, aI2l, aL2i, aNul, aSwS, aSw, aInc, aDup, aDup2, aPop1, aIret, aAret, aVret, aLen, aFk, aFT, Value.category, m_sh, m_p, r_isSheet, hv, hw, ts, ns, l4, to, no, m4, h0', h1', re_2]
        · have c1 : ¬ I (105 + 2 * o) 1 = 0 := fun z => h1 (u1.symm.trans z)
          by_cases hk : I 124 s = I 124 o
          · have ck : I (105 + 2 * s) 1 = I (105 + 2 * o) 1 := by rw [q1, u1, hk]
            have kh1 := k_holds (d := d + 17) (x := x) (y := y) (I := I) (a := i) (n := n) hs
            have kh2 := k_holds (d := d + 17) (x := x) (y := y) (I := I) (a := j) (n := n) ho
            rw [q3] at kh1
            rw [u3] at kh2
            by_cases hc1 : (0 ≤ n ∧ n ≤ nI a) ∧ 0 ≤ i ∧ i ≤ nI a - n
            · by_cases hc2 : (0 ≤ n ∧ n ≤ nI b) ∧ 0 ≤ j ∧ j ≤ nI b - n
              · rw [if_pos hc1] at kh1
                rw [if_pos hc2] at kh2
                obtain ⟨N, hN, rfl⟩ := in_0n (n := a) rfl (by omega) hc1.1
                have hNb : N ≤ b := (nI_leI (by omega) (by omega)).mp hc2.1.2
                have e1 := hc1.2
                have e2 := hc2.2
                have sub1 := pk_sub hN
                have sub2 := pk_sub hNb
                rw [sub1] at e1
                rw [sub2] at e2
                obtain ⟨p, hp, rfl⟩ := in_0n (n := a - N) rfl (by omega) e1
                obtain ⟨q, hq, rfl⟩ := in_0n (n := b - N) rfl (by omega) e2
                have f1 : nI p ≤ nI (a - N) := nI_le hp (by omega)
                have f2 : nI q ≤ nI (b - N) := nI_le hq (by omega)
                have tp := toNat_nI (show p < 2 ^ 31 by omega)
                have np := nI_lt0 (show p < 2 ^ 31 by omega)
                have tq := toNat_nI (show q < 2 ^ 31 by omega)
                have nq := nI_lt0 (show q < 2 ^ 31 by omega)
                have tN := toNat_nI (show N < 2 ^ 31 by omega)
                have nN := nI_lt0 (show N < 2 ^ 31 by omega)
                generalize hJ : aCpy I (106 + 2 * s) (106 + 2 * o) p q N = J
                have jr : ∀ r, r ≠ 106 + 2 * o → J r = I r := fun r hr => by rw [← hJ, cpy_ne hr]
                have r1 := r_aside_loop (d := d + 19) (x := x) (y := y) (I := J) (s := s) (a := p) (n := N) (l3 := some (.int (nI o))) (l4 := some (.int (nI q))) hs (by omega) N 0 (by omega)
                have r2 := r_back_loop (d := d + 19) (x := x) (y := y) (I := aCpy J 126 127 (24 * s + p) 0 N) (o := o) (b := q) (n := N) (l1 := some (.int (nI s))) (l2 := some (.int (nI p))) ho (by omega) N 0 (by omega)
                rw [aCpy_0, nI_lit0] at r1 r2
                rw [r2] at r1
                refine Pair.sh (v := nI N) (I1 := J) (I2 := aCpy (aCpy J 126 127 (24 * s + p) 0 N) 127 126 0 (24 * o + q) N) h ?_ ?_ (fun r hr => ?_) (fun r a b c e g => ?_) (relS.mv hS hs ho (by omega) (by omega) hJ.symm rfl)
                · rw [e_96, ← hJ]; simp [s_96, aILoad, aRLoad, aLLoad, aIStore, aRStore, aPush, aBin, aBinL, aShL, aUn, aIf, aIc, aGet, aPut, aIald, aBald, aAald, aIast, aBast, aAast, aAlen, aCopy, aCallV, aCallC, aCallI, aRet, aCat, aMax, aMin, aDiv, aRem, aI2l, aL2i, aNul, aSwS, aSw, aInc, aDup, aDup2, aPop1, aIret, aAret, aVret, aLen, aFk, aFT, Value.category, c_sh, sa, so, sh_sh hs, sh_sh ho, sh_p hs, sh_p ho, kms, kmo, c0, c1, ck, kh1, kh2, tp, np, tq, nq, tN, nN, show p + N ≤ 24 by omega, show q + N ≤ 24 by omega]
                · have g124 := jr 124 (by omega)
                  have g125 := jr 125 (by omega)
                  rw [e_209, ← r1]; simp [s_209, aILoad, aRLoad, aLLoad, aIStore, aRStore, aPush, aBin, aBinL, aShL, aUn, aIf, aIc, aGet, aPut, aIald, aBald, aAald, aIast, aBast, aAast, aAlen, aCopy, aCallV, aCallC, aCallI, aRet, aCat, aMax, aMin, aDiv, aRem, aI2l, aL2i, aNul, aSwS, aSw, aInc, aDup, aDup2, aPop1, aIret, aAret, aVret, aLen, aFk, aFT, Value.category, m_sh, m_p, r_isSheet, hv, hw, ts, ns, l4, to, no, m4, g124, g125, h0, h1, hk, q4, u4, sub1, sub2, np, nq, nN, Int32.not_lt.mpr f1, Int32.not_lt.mpr f2, f1, f2]
                · rw [cpy_ne (by omega), cpy_ne (by omega)]; exact jr r (by omega)
                · rw [cpy_ne (by omega), cpy_ne (by omega)]; exact jr r (by omega)
              · rw [if_pos hc1] at kh1
                rw [if_neg hc2] at kh2
                refine Pair.ref 1 (-1000000001) h ?_ (fun I' hI => ?_)
                · rw [e_96]; simp [s_96, aILoad, aRLoad, aLLoad, aIStore, aRStore, aPush, aBin, aBinL, aShL, aUn, aIf, aIc, aGet, aPut, aIald, aBald, aAald, aIast, aBast, aAast, aAlen, aCopy, aCallV, aCallC, aCallI, aRet, aCat, aMax, aMin, aDiv, aRem, aI2l, aL2i, aNul, aSwS, aSw, aInc, aDup, aDup2, aPop1, aIret, aAret, aVret, aLen, aFk, aFT, Value.category, c_sh, sa, so, sh_sh hs, sh_sh ho, kms, kmo, c0, c1, ck, kh1, kh2, rf_1]
                · have g124 := hI 124 (by decide)
                  have g125 := hI 125 (by decide)
                  have n0 : ¬ n < 0 := Int32.not_lt.mpr hc1.1.1
                  have i0 : ¬ i < 0 := Int32.not_lt.mpr hc1.2.1
                  have i1 : ¬ nI a - n < i := Int32.not_lt.mpr hc1.2.2
                  by_cases j0 : j < 0
                  · rw [e_209]; simp [s_209, aILoad, aRLoad, aLLoad, aIStore, aRStore, aPush, aBin, aBinL, aShL, aUn, aIf, aIc, aGet, aPut, aIald, aBald, aAald, aIast, aBast, aAast, aAlen, aCopy, aCallV, aCallC, aCallI, aRet, aCat, aMax, aMin, aDiv, aRem, aI2l, aL2i, aNul, aSwS, aSw, aInc, aDup, aDup2, aPop1, aIret, aAret, aVret, aLen, aFk, aFT, Value.category, m_sh, m_p, r_isSheet, hv, hw, ts, ns, l4, to, no, m4, g124, g125, h0, h1, hk, q4, u4, hc1.1.1, hc1.2.1, hc1.2.2, n0, i0, i1, j0, re_1]
                  · have j1 : nI b - n < j := Int32.not_le.mp fun z => hc2 ⟨⟨hc1.1.1, le_of_sub hb hc1.1.1 (Int32.not_lt.mp j0) z⟩, Int32.not_lt.mp j0, z⟩
                    rw [e_209]; simp [s_209, aILoad, aRLoad, aLLoad, aIStore, aRStore, aPush, aBin, aBinL, aShL, aUn, aIf, aIc, aGet, aPut, aIald, aBald, aAald, aIast, aBast, aAast, aAlen, aCopy, aCallV, aCallC, aCallI, aRet, aCat, aMax, aMin, aDiv, aRem, aI2l, aL2i, aNul, aSwS, aSw, aInc, aDup, aDup2, aPop1, aIret, aAret, aVret, aLen, aFk, aFT, Value.category, m_sh, m_p, r_isSheet, hv, hw, ts, ns, l4, to, no, m4, g124, g125, h0, h1, hk, q4, u4, hc1.1.1, hc1.2.1, hc1.2.2, n0, i0, i1, j0, j1, Int32.not_lt.mp j0, Int32.not_le.mpr j1, re_1]
            · rw [if_neg hc1] at kh1
              refine Pair.ref 1 (-1000000001) h ?_ (fun I' hI => ?_)
              · rw [e_96]; simp [s_96, aILoad, aRLoad, aLLoad, aIStore, aRStore, aPush, aBin, aBinL, aShL, aUn, aIf, aIc, aGet, aPut, aIald, aBald, aAald, aIast, aBast, aAast, aAlen, aCopy, aCallV, aCallC, aCallI, aRet, aCat, aMax, aMin, aDiv, aRem, aI2l, aL2i, aNul, aSwS, aSw, aInc, aDup, aDup2, aPop1, aIret, aAret, aVret, aLen, aFk, aFT, Value.category, c_sh, sa, so, sh_sh hs, sh_sh ho, kms, kmo, c0, c1, ck, kh1, rf_1]
              · have g124 := hI 124 (by decide)
                have g125 := hI 125 (by decide)
                rw [e_209]
                by_cases n0 : n < 0
                · simp [s_209, aILoad, aRLoad, aLLoad, aIStore, aRStore, aPush, aBin, aBinL, aShL, aUn, aIf, aIc, aGet, aPut, aIald, aBald, aAald, aIast, aBast, aAast, aAlen, aCopy, aCallV, aCallC, aCallI, aRet, aCat, aMax, aMin, aDiv, aRem, aI2l, aL2i, aNul, aSwS, aSw, aInc, aDup, aDup2, aPop1, aIret, aAret, aVret, aLen, aFk, aFT, Value.category, m_sh, m_p, r_isSheet, hv, hw, ts, ns, l4, to, no, m4, g124, g125, h0, h1, hk, n0, re_1]
                · have n0' := Int32.not_lt.mp n0
                  by_cases i0 : i < 0
                  · simp [s_209, aILoad, aRLoad, aLLoad, aIStore, aRStore, aPush, aBin, aBinL, aShL, aUn, aIf, aIc, aGet, aPut, aIald, aBald, aAald, aIast, aBast, aAast, aAlen, aCopy, aCallV, aCallC, aCallI, aRet, aCat, aMax, aMin, aDiv, aRem, aI2l, aL2i, aNul, aSwS, aSw, aInc, aDup, aDup2, aPop1, aIret, aAret, aVret, aLen, aFk, aFT, Value.category, m_sh, m_p, r_isSheet, hv, hw, ts, ns, l4, to, no, m4, g124, g125, h0, h1, hk, n0, n0', i0, re_1]
                  · have i0' := Int32.not_lt.mp i0
                    by_cases j0 : j < 0
                    · simp [s_209, aILoad, aRLoad, aLLoad, aIStore, aRStore, aPush, aBin, aBinL, aShL, aUn, aIf, aIc, aGet, aPut, aIald, aBald, aAald, aIast, aBast, aAast, aAlen, aCopy, aCallV, aCallC, aCallI, aRet, aCat, aMax, aMin, aDiv, aRem, aI2l, aL2i, aNul, aSwS, aSw, aInc, aDup, aDup2, aPop1, aIret, aAret, aVret, aLen, aFk, aFT, Value.category, m_sh, m_p, r_isSheet, hv, hw, ts, ns, l4, to, no, m4, g124, g125, h0, h1, hk, n0, n0', i0, i0', j0, re_1]
                    · have j0' := Int32.not_lt.mp j0
                      have i1 : nI a - n < i := Int32.not_le.mp fun z => hc1 ⟨⟨n0', le_of_sub ha n0' i0' z⟩, i0', z⟩
                      simp [s_209, aILoad, aRLoad, aLLoad, aIStore, aRStore, aPush, aBin, aBinL, aShL, aUn, aIf, aIc, aGet, aPut, aIald, aBald, aAald, aIast, aBast, aAast, aAlen, aCopy, aCallV, aCallC, aCallI, aRet, aCat, aMax, aMin, aDiv, aRem, aI2l, aL2i, aNul, aSwS, aSw, aInc, aDup, aDup2, aPop1, aIret, aAret, aVret, aLen, aFk, aFT, Value.category, m_sh, m_p, r_isSheet, hv, hw, ts, ns, l4, to, no, m4, g124, g125, h0, h1, hk, q4, n0, n0', i0, i0', j0, j0', i1, Int32.not_le.mpr i1, re_1]
          · have ck : ¬ I (105 + 2 * s) 1 = I (105 + 2 * o) 1 := by rw [q1, u1]; exact hk
            refine Pair.ref 5 (-1000000005) h ?_ (fun I' hI => ?_)
            · rw [e_96]; simp [s_96, aILoad, aRLoad, aLLoad, aIStore, aRStore, aPush, aBin, aBinL, aShL, aUn, aIf, aIc, aGet, aPut, aIald, aBald, aAald, aIast, aBast, aAast, aAlen, aCopy, aCallV, aCallC, aCallI, aRet, aCat, aMax, aMin, aDiv, aRem, aI2l, aL2i, aNul, aSwS, aSw, aInc, aDup, aDup2, aPop1, aIret, aAret, aVret, aLen, aFk, aFT, Value.category, c_sh, sa, so, sh_sh hs, sh_sh ho, kms, kmo, c0, c1, ck, rf_5]
            · have g124 := hI 124 (by decide)
              rw [e_209]; simp [s_209, aILoad, aRLoad, aLLoad, aIStore, aRStore, aPush, aBin, aBinL, aShL, aUn, aIf, aIc, aGet, aPut, aIald, aBald, aAald, aIast, aBast, aAast, aAlen, aCopy, aCallV, aCallC, aCallI, aRet, aCat, aMax, aMin, aDiv, aRem, aI2l, aL2i, aNul, aSwS, aSw, aInc, aDup, aDup2, aPop1, aIret, aAret, aVret, aLen, aFk, aFT, Value.category, m_sh, m_p, r_isSheet, hv, hw, ts, ns, l4, to, no, m4, g124, h0, h1, hk, re_5]
    · have so := k_sheetNo (d := d + 17) (x := x) (y := y) (I := I) hw
      refine Pair.ref 1 (-1000000001) h ?_ (fun I' hI => ?_)
      · rw [e_96]; simp [s_96, aILoad, aRLoad, aLLoad, aIStore, aRStore, aPush, aBin, aBinL, aShL, aUn, aIf, aIc, aGet, aPut, aIald, aBald, aAald, aIast, aBast, aAast, aAlen, aCopy, aCallV, aCallC, aCallI, aRet, aCat, aMax, aMin, aDiv, aRem, aI2l, aL2i, aNul, aSwS, aSw, aInc, aDup, aDup2, aPop1, aIret, aAret, aVret, aLen, aFk, aFT, Value.category, c_sh, sa, so, rf_1]
      · rw [e_209]; simp [s_209, aILoad, aRLoad, aLLoad, aIStore, aRStore, aPush, aBin, aBinL, aShL, aUn, aIf, aIc, aGet, aPut, aIald, aBald, aAald, aIast, aBast, aAast, aAlen, aCopy, aCallV, aCallC, aCallI, aRet, aCat, aMax, aMin, aDiv, aRem, aI2l, aL2i, aNul, aSwS, aSw, aInc, aDup, aDup2, aPop1, aIret, aAret, aVret, aLen, aFk, aFT, Value.category, m_sh, r_isSheet, hv, hw, re_1]
  · have sa := k_sheetNo (d := d + 17) (x := x) (y := y) (I := I) hv
    by_cases hw : 0 ≤ w ∧ w ≤ 3
    · obtain ⟨o, ho3, rfl⟩ := in_0n (n := 3) rfl (by omega) hw
      have so := k_sheetAt (d := d + 17) (x := x) (y := y) (I := I) (show o < 4 by omega)
      refine Pair.ref 1 (-1000000001) h ?_ (fun I' hI => ?_)
      · rw [e_96]; simp [s_96, aILoad, aRLoad, aLLoad, aIStore, aRStore, aPush, aBin, aBinL, aShL, aUn, aIf, aIc, aGet, aPut, aIald, aBald, aAald, aIast, aBast, aAast, aAlen, aCopy, aCallV, aCallC, aCallI, aRet, aCat, aMax, aMin, aDiv, aRem, aI2l, aL2i, aNul, aSwS, aSw, aInc, aDup, aDup2, aPop1, aIret, aAret, aVret, aLen, aFk, aFT, Value.category, c_sh, sa, so, rf_1]
      · rw [e_209]; simp [s_209, aILoad, aRLoad, aLLoad, aIStore, aRStore, aPush, aBin, aBinL, aShL, aUn, aIf, aIc, aGet, aPut, aIald, aBald, aAald, aIast, aBast, aAast, aAlen, aCopy, aCallV, aCallC, aCallI, aRet, aCat, aMax, aMin, aDiv, aRem, aI2l, aL2i, aNul, aSwS, aSw, aInc, aDup, aDup2, aPop1, aIret, aAret, aVret, aLen, aFk, aFT, Value.category, m_sh, r_isSheet, hv, re_1]
    · have so := k_sheetNo (d := d + 17) (x := x) (y := y) (I := I) hw
      refine Pair.ref 1 (-1000000001) h ?_ (fun I' hI => ?_)
      · rw [e_96]; simp [s_96, aILoad, aRLoad, aLLoad, aIStore, aRStore, aPush, aBin, aBinL, aShL, aUn, aIf, aIc, aGet, aPut, aIald, aBald, aAald, aIast, aBast, aAast, aAlen, aCopy, aCallV, aCallC, aCallI, aRet, aCat, aMax, aMin, aDiv, aRem, aI2l, aL2i, aNul, aSwS, aSw, aInc, aDup, aDup2, aPop1, aIret, aAret, aVret, aLen, aFk, aFT, Value.category, c_sh, sa, so, rf_1]
      · rw [e_209]; simp [s_209, aILoad, aRLoad, aLLoad, aIStore, aRStore, aPush, aBin, aBinL, aShL, aUn, aIf, aIc, aGet, aPut, aIald, aBald, aAald, aIast, aBast, aAast, aAlen, aCopy, aCallV, aCallC, aCallI, aRet, aCat, aMax, aMin, aDiv, aRem, aI2l, aL2i, aNul, aSwS, aSw, aInc, aDup, aDup2, aPop1, aIret, aAret, aVret, aLen, aFk, aFT, Value.category, m_sh, r_isSheet, hv, re_1]
end SHEET3
