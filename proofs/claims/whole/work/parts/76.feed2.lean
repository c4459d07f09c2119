/-! the calls in pairs: feed, untell -/
theorem relF.newL {f P T u la : Nat} {I I1 : Nat → Nat → Int32} {σ σ1 : Nat → Int32} (h : relF f I σ P T) (hu : u = 0 ∧ la = f + 3 ∨ u = 1 ∧ la = f + 7) (a : ∀ r, r < la ∨ la + 3 < r → I1 r = I r) (b : relL I1 la σ1 u) (c : ∀ k, k < 120 + 125 * u ∨ 245 + 125 * u ≤ k → σ1 k = σ k) : relF f I1 σ1 P T := by
  obtain ⟨g1, g2, g3, g4, g5, g6, g7, g8, g9⟩ := h
  refine ⟨g1, by rw [a f (by omega)]; exact g2, by rw [c 7 (by omega), c 8 (by omega)]; exact g3, fun p hp => by rw [a _ (by omega)]; exact g4 p hp, fun p hp j hj => by rw [a _ (by omega), c _ (by omega)]; exact g5 p hp j hj, fun t ht j hj => by rw [a _ (by omega), c _ (by omega)]; exact g6 t ht j hj, fun k hk => by rw [a f (by omega), c _ (by omega)]; exact g7 k hk, ?_, ?_⟩
  · rcases hu with ⟨rfl, rfl⟩ | ⟨rfl, rfl⟩
    · exact b
    · exact relL_congr g8 (a _ (by omega)) (a _ (by omega)) (a _ (by omega)) (fun k _ _ => c k (by omega))
  · rcases hu with ⟨rfl, rfl⟩ | ⟨rfl, rfl⟩
    · exact relL_congr g9 (a _ (by omega)) (a _ (by omega)) (a _ (by omega)) (fun k _ _ => c k (by omega))
    · exact b
theorem wfS.newL {P T : Nat} {σ σ1 : Nat → Int32} (h : wfS σ P T) (hP : P ≤ 8) (hT : T ≤ 10) (c : ∀ k, k < 120 → k ≠ 5 → k ≠ 6 → σ1 k = σ k) (o : okT σ1) : wfS σ1 P T := by
  obtain ⟨h1, h2, h3, h4⟩ := h
  refine ⟨fun p hp => ?_, fun t ht => ?_, o, fun k _ _ => by rw [c k (by omega) (by omega) (by omega)]; exact h4 k (by omega) (by omega)⟩
  · rw [c _ (by omega) (by omega) (by omega), c _ (by omega) (by omega) (by omega), c _ (by omega) (by omega) (by omega)]; exact h1 p hp
  · rw [c _ (by omega) (by omega) (by omega), c _ (by omega) (by omega) (by omega), c _ (by omega) (by omega) (by omega), c _ (by omega) (by omega) (by omega)]; exact h2 t ht
section FEED2
variable {d : Nat} {I : Nat → Nat → Int32} {x y : Option Nat}
theorem pair_untell (u : Int32) : Pair 75 144 [.int u] := by
  intro d I x y h
  obtain ⟨f, P, T, h1, hf, hA⟩ := h.f
  have hP := hA.1.1
  by_cases hu : 0 ≤ u ∧ u ≤ 1
  · rcases in_01 hu with rfl | rfl
    · obtain ⟨n, n60, l4, l5, l0, _⟩ := hA.1.la
      have l5' : I 114 120 = nI n := l5
      have kh := k_hasText (d := d + 18) (x := x) (y := y) (f_l3 hf) l4 (by omega)
      have kc := k_clear (d := d + 18) (I := I) (x := x) (y := y) (f_l3 hf)
      have e114 : aUpd I (f + 3) 4 0 114 = I 114 := aUpd_ne (by omega)
      have rh := r_hasText (d := d + 18) (x := x) (y := y) (I := aUpd I (f + 3) 4 0) (u := 0) (n := n) (by omega) (by rw [e114]; exact l5) (by omega)
      rw [nI_lit0] at rh
      refine Pair.now (v := if n = 0 then 0 else 1) (P := P) (T := T) h h1 (I1 := aUpd I (f + 3) 4 0) (I2 := aUpd (aUpd I (f + 3) 4 0) 114 120 0) ?_ ?_ (KG.rf.upd (by omega) (by omega)) (RG.rf.upd) ?_
      · rw [e_75]
        by_cases h0 : n = 0 <;> simp [s_75, aILoad, aRLoad, aLLoad, aIStore, aRStore, aPush, aBin, aBinL, aShL, aUn, aIf, aIc, aGet, aPut, aIald, aBald, aAald, aIast, aBast, aAast, aAlen, aCopy, aCallV, aCallC, aCallI, aRet, aCat, aMax, aMin, aDiv, aRem, aI2l, aL2i, aNul, aSwS, aSw, aInc, aDup, aDup2, aPop1, aIret, aAret, aVret, aLen, aFk, aFT, Value.category, c_sh, c_f h1, f_sh hf, k_isUse, k_lawOf0 hf, la_sh (f_l3 hf), kh, kc, h0]
      · rw [e_144]
        by_cases h0 : n = 0 <;> simp [s_144, aILoad, aRLoad, aLLoad, aIStore, aRStore, aPush, aBin, aBinL, aShL, aUn, aIf, aIc, aGet, aPut, aIald, aBald, aAald, aIast, aBast, aAast, aAlen, aCopy, aCallV, aCallC, aCallI, aRet, aCat, aMax, aMin, aDiv, aRem, aI2l, aL2i, aNul, aSwS, aSw, aInc, aDup, aDup2, aPop1, aIret, aAret, aVret, aLen, aFk, aFT, Value.category, m_sh, m_p, r_in, rh, h0]
      · rw [aUpd_row, e114]
        have c5 : ∀ k, k ≠ 120 → upd (I 114) 120 0 k = I 114 k := fun k hk => upd_ne hk
        refine ⟨hA.1.newL (u := 0) (la := f + 3) (by omega) (fun r hr => aUpd_ne (by omega)) ⟨0, by omega, by rw [aUpd_row, upd_eq]; rfl, by rw [show 120 + 125 * 0 = 120 from rfl, upd_eq]; rfl, by rw [aUpd_row, upd_ne (by omega)]; exact l0, fun i hi => by omega⟩ (fun k hk => c5 k (by omega)), hA.2.1.cg (by rw [aUpd_ne (by omega)]) (by rw [aUpd_ne (by omega)]) (aUpd_ne (by omega)) (aUpd_ne (by omega)) (fun k hk => c5 k (by omega)), hA.2.2.newL hP.1 hP.2 (fun k _ _ _ => c5 k (by omega)) ⟨⟨0, by rw [show 120 + 125 * 0 = 120 from rfl, upd_eq]; rfl, Or.inl rfl⟩, okTx_congr (fun k a b => c5 k (by omega)) hA.2.2.ok.2⟩⟩
    · obtain ⟨n, n60, l4, l5, l0, _⟩ := hA.1.lg
      have l5' : I 114 245 = nI n := l5
      have kh := k_hasText (d := d + 18) (x := x) (y := y) (f_l7 hf) l4 (by omega)
      have kc := k_clear (d := d + 18) (I := I) (x := x) (y := y) (f_l7 hf)
      have e114 : aUpd I (f + 7) 4 0 114 = I 114 := aUpd_ne (by omega)
      have rh := r_hasText (d := d + 18) (x := x) (y := y) (I := aUpd I (f + 7) 4 0) (u := 1) (n := n) (by omega) (by rw [e114]; exact l5) (by omega)
      rw [nI_lit1] at rh
      refine Pair.now (v := if n = 0 then 0 else 1) (P := P) (T := T) h h1 (I1 := aUpd I (f + 7) 4 0) (I2 := aUpd (aUpd I (f + 7) 4 0) 114 245 0) ?_ ?_ (KG.rf.upd (by omega) (by omega)) (RG.rf.upd) ?_
      · rw [e_75]
        by_cases h0 : n = 0 <;> simp [s_75, aILoad, aRLoad, aLLoad, aIStore, aRStore, aPush, aBin, aBinL, aShL, aUn, aIf, aIc, aGet, aPut, aIald, aBald, aAald, aIast, aBast, aAast, aAlen, aCopy, aCallV, aCallC, aCallI, aRet, aCat, aMax, aMin, aDiv, aRem, aI2l, aL2i, aNul, aSwS, aSw, aInc, aDup, aDup2, aPop1, aIret, aAret, aVret, aLen, aFk, aFT, Value.category, c_sh, c_f h1, f_sh hf, k_isUse, k_lawOf1 hf, la_sh (f_l7 hf), kh, kc, h0]
      · rw [e_144]
        by_cases h0 : n = 0 <;> simp [s_144, aILoad, aRLoad, aLLoad, aIStore, aRStore, aPush, aBin, aBinL, aShL, aUn, aIf, aIc, aGet, aPut, aIald, aBald, aAald, aIast, aBast, aAast, aAlen, aCopy, aCallV, aCallC, aCallI, aRet, aCat, aMax, aMin, aDiv, aRem, aI2l, aL2i, aNul, aSwS, aSw, aInc, aDup, aDup2, aPop1, aIret, aAret, aVret, aLen, aFk, aFT, Value.category, m_sh, m_p, r_in, rh, h0]
      · rw [aUpd_row, e114]
        have c5 : ∀ k, k ≠ 245 → upd (I 114) 245 0 k = I 114 k := fun k hk => upd_ne hk
        refine ⟨hA.1.newL (u := 1) (la := f + 7) (by omega) (fun r hr => aUpd_ne (by omega)) ⟨0, by omega, by rw [aUpd_row, upd_eq]; rfl, by rw [show 120 + 125 * 1 = 245 from rfl, upd_eq]; rfl, by rw [aUpd_row, upd_ne (by omega)]; exact l0, fun i hi => by omega⟩ (fun k hk => c5 k (by omega)), hA.2.1.cg (by rw [aUpd_ne (by omega)]) (by rw [aUpd_ne (by omega)]) (aUpd_ne (by omega)) (aUpd_ne (by omega)) (fun k hk => c5 k (by omega)), hA.2.2.newL hP.1 hP.2 (fun k _ _ _ => c5 k (by omega)) ⟨okTx_congr (fun k a b => c5 k (by omega)) hA.2.2.ok.1, ⟨0, by rw [show 120 + 125 * 1 = 245 from rfl, upd_eq]; rfl, Or.inl rfl⟩⟩⟩
  · refine Pair.ref 1 (-1000000001) h ?_ (fun I' hI => ?_)
    · rw [e_75]; simp [s_75, aILoad, aRLoad, aLLoad, aIStore, aRStore, aPush, aBin, aBinL, aShL, aUn, aIf, aIc, aGet, aPut, aIald, aBald, aAald, aIast, aBast, aAast, aAlen, aCopy, aCallV, aCallC, aCallI, aRet, aCat, aMax, aMin, aDiv, aRem, aI2l, aL2i, aNul, aSwS, aSw, aInc, aDup, aDup2, aPop1, aIret, aAret, aVret, aLen, aFk, aFT, Value.category, c_sh, k_isUse, hu, rf_1]
    · rw [e_144]; simp [s_144, aILoad, aRLoad, aLLoad, aIStore, aRStore, aPush, aBin, aBinL, aShL, aUn, aIf, aIc, aGet, aPut, aIald, aBald, aAald, aIast, aBast, aAast, aAlen, aCopy, aCallV, aCallC, aCallI, aRet, aCat, aMax, aMin, aDiv, aRem, aI2l, aL2i, aNul, aSwS, aSw, aInc, aDup, aDup2, aPop1, aIret, aAret, aVret, aLen, aFk, aFT, Value.category, m_sh, m_p, r_in, hu, re_1]
/-- the class's tape with i bytes more -/
def feI (f L : Nat) (w : Int64) (I0 : Nat → Nat → Int32) (i : Nat) (I : Nat → Nat → Int32) : Prop :=
  (∀ r, r ≠ f → r ≠ f + 11 → I r = I0 r) ∧ (∀ k, k ≠ 8 → I f k = I0 f k) ∧ I f 8 = nI (L + i) ∧ (∀ j, j < L → I (f + 11) j = I0 (f + 11) j) ∧ (∀ j, j < i → I (f + 11) (L + j) = cB w j) ∧ okB f I
theorem k_feed_loop {f L n : Nat} {w : Int64} {I0 : Nat → Nat → Int32} (h1 : f = 1) (hf : isF f) (hL : L + n ≤ 60) (hn : n ≤ 8) : ∀ k i (I : Nat → Nat → Int32), i + k = n → feI f L w I0 i I →
    ∃ I1, aGo (aCall aMt d) none cd_73 0 41 [some (.ref 0), some (.long w), none, some (.int (nI n)), some (.int (nI i))] [] (HH I x y) = some (some (.int (nI (L + n))), HH I1 x y) ∧ feI f L w I0 n I1 := by
  intro k
  induction k with
  | zero =>
    intro i I hi hI
    obtain rfl : i = n := by omega
    refine ⟨I, ?_, hI⟩
    rw [s_73_41]
    simp [s_73, aILoad, aRLoad, aLLoad, aIStore, aRStore, aPush, aBin, aBinL, aShL, aUn, aIf, aIc, aGet, aPut, aIald, aBald, aAald, aIast, aBast, aAast, aAlen, aCopy, aCallV, aCallC, aCallI, aRet, aCat, aMax, aMin, aDiv, aRem, aI2l, aL2i, aNul, aSwS, aSw, aInc, aDup, aDup2, aPop1, aIret, aAret, aVret, aLen, aFk, aFT, Value.category, c_sh, c_f h1, f_sh hf, hI.2.2.1]
  | succ k ih =>
    intro i I hi hI
    have g1 : ¬ nI n ≤ nI i := nI_ge (by omega) (by omega)
    obtain ⟨a1, a2, a3, a4, a5, a6⟩ := hI
    obtain ⟨I1, r1, r2⟩ := ih (i + 1) (aUpd (aUpd I (f + 11) (L + i) (cB w i)) f 8 (nI (L + i + 1))) (by omega) ⟨fun r p q => by rw [aUpd_ne p, aUpd_ne q]; exact a1 r p q, fun k hk => by rw [aUpd_row, upd_ne hk, aUpd_ne (by omega)]; exact a2 k hk, by rw [aUpd_row, upd_eq]; rfl, fun j hj => by rw [aUpd_ne (by omega), aUpd_row, upd_ne (by omega)]; exact a4 j hj, fun j hj => by
      rw [aUpd_ne (by omega), aUpd_row]
      by_cases e : j = i
      · subst e; rw [upd_eq]
      · rw [upd_ne (by omega)]; exact a5 j (by omega), fun j hj => by
      rw [aUpd_ne (by omega), aUpd_row]
      by_cases e : j = L + i
      · subst e; rw [upd_eq]; exact pk_fb _
      · rw [upd_ne e]; exact a6 j hj⟩
    refine ⟨I1, ?_, r2⟩
    have ix : (8 : Int32) * nI i = sK i := pk_mul 8 i
    have n1 : ∀ (J : Nat → Nat → Int32) k v, aUpd J (f + 11) k v f = J f := fun J k v => aUpd_ne (by omega)
    rw [s_73_41, ← r1]
    simp [s_73, aILoad, aRLoad, aLLoad, aIStore, aRStore, aPush, aBin, aBinL, aShL, aUn, aIf, aIc, aGet, aPut, aIald, aBald, aAald, aIast, aBast, aAast, aAlen, aCopy, aCallV, aCallC, aCallI, aRet, aCat, aMax, aMin, aDiv, aRem, aI2l, aL2i, aNul, aSwS, aSw, aInc, aDup, aDup2, aPop1, aIret, aAret, aVret, aLen, aFk, aFT, Value.category, c_sh, c_f h1, f_sh hf, f_p hf, g1, a3, ix, n1, toNat_nI (show L + i < 2 ^ 31 by omega), nI_lt0 (show L + i < 2 ^ 31 by omega), show ¬ 60 ≤ L + i by omega, nI_1, cB]
def feJ (L : Nat) (w : Int64) (I0 : Nat → Nat → Int32) (i : Nat) (I : Nat → Nat → Int32) : Prop :=
  (∀ r, r ≠ 114 → I r = I0 r) ∧ (∀ k, k ≠ 5 → (k < 370 + L ∨ 370 + L + i ≤ k) → I 114 k = I0 114 k) ∧ I 114 5 = nI (L + i) ∧ ∀ j, j < i → I 114 (370 + L + j) = rB w j
theorem r_feed_loop {L n : Nat} {w : Int64} {I0 : Nat → Nat → Int32} (hL : L + n ≤ 60) (hn : n ≤ 8) : ∀ k i (I : Nat → Nat → Int32), i + k = n → feJ L w I0 i I →
    ∃ I1, aGo (aCall aMt d) none cd_131 0 38 [some (.ref 113), some (.long w), none, some (.int (nI n)), some (.int (nI i))] [] (HH I x y) = some (some (.int (nI (L + n))), HH I1 x y) ∧ feJ L w I0 n I1 := by
  intro k
  induction k with
  | zero =>
    intro i I hi hI
    obtain rfl : i = n := by omega
    refine ⟨I, ?_, hI⟩
    rw [s_131_38]
    simp [s_131, aILoad, aRLoad, aLLoad, aIStore, aRStore, aPush, aBin, aBinL, aShL, aUn, aIf, aIc, aGet, aPut, aIald, aBald, aAald, aIast, aBast, aAast, aAlen, aCopy, aCallV, aCallC, aCallI, aRet, aCat, aMax, aMin, aDiv, aRem, aI2l, aL2i, aNul, aSwS, aSw, aInc, aDup, aDup2, aPop1, aIret, aAret, aVret, aLen, aFk, aFT, Value.category, m_sh, m_p, hI.2.2.1]
  | succ k ih =>
    intro i I hi hI
    have g1 : ¬ nI n ≤ nI i := nI_ge (by omega) (by omega)
    obtain ⟨a1, a2, a3, a4⟩ := hI
    obtain ⟨I1, r1, r2⟩ := ih (i + 1) (aUpd (aUpd I 114 (370 + (L + i)) (rB w i)) 114 5 (nI (L + i + 1))) (by omega) ⟨fun r p => by rw [aUpd_ne p, aUpd_ne p]; exact a1 r p, fun k hk q => by rw [aUpd_row, upd_ne hk, aUpd_row, upd_ne (by omega)]; exact a2 k hk (by omega), by rw [aUpd_row, upd_eq]; rfl, fun j hj => by
      rw [aUpd_row, upd_ne (by omega), aUpd_row]
      by_cases e : j = i
      · subst e; rw [show 370 + L + j = 370 + (L + j) by omega, upd_eq]
      · rw [upd_ne (by omega)]; exact a4 j (by omega)⟩
    refine ⟨I1, ?_, r2⟩
    have ix : (8 : Int32) * nI i = sK i := pk_mul 8 i
    have iy : (370 : Int32) + nI (L + i) = nI (370 + (L + i)) := nI_add 370 (L + i)
    have e5 : aUpd I 114 (370 + (L + i)) (rB w i) 114 5 = nI (L + i) := by rw [aUpd_row, upd_ne (by omega)]; exact a3
    have hr : ((w >>> ((sK i).toInt64 &&& 63)) &&& 255).toInt32 = rB w i := rfl
    rw [s_131_38, ← r1]
    simp [s_131, aILoad, aRLoad, aLLoad, aIStore, aRStore, aPush, aBin, aBinL, aShL, aUn, aIf, aIc, aGet, aPut, aIald, aBald, aAald, aIast, aBast, aAast, aAlen, aCopy, aCallV, aCallC, aCallI, aRet, aCat, aMax, aMin, aDiv, aRem, aI2l, aL2i, aNul, aSwS, aSw, aInc, aDup, aDup2, aPop1, aIret, aAret, aVret, aLen, aFk, aFT, Value.category, m_sh, m_p, g1, a3, ix, iy, toNat_nI (show 370 + (L + i) < 2 ^ 31 by omega), nI_lt0 (show 370 + (L + i) < 2 ^ 31 by omega), show ¬ 454 ≤ 370 + (L + i) by omega, show Int64.ofNat 255 = 255 from rfl, hr, e5, nI_1]
theorem pair_feed (w : Int64) (n : Int32) : Pair 73 131 [.long w, .int n] := by
  intro d I x y h
  obtain ⟨f, P, T, h1, hf, hA⟩ := h.f
  have hP := hA.1.1
  obtain ⟨⟨L, l1, l2, l3, l4⟩, hW, hb⟩ := hA.2.1
  by_cases hn : 1 ≤ n ∧ n ≤ 8
  · obtain ⟨N, N1, N2, rfl⟩ := (isIn' (v := n) (a := 1) (b := 8) (by omega) (by omega)).mp hn
    have es : nI L + nI N = nI (L + N) := nI_add L N
    by_cases hL : L + N ≤ 60
    · have g1 : nI (L + N) ≤ (60 : Int32) := nI_le (b := 60) hL (by omega)
      obtain ⟨I1, k1, k2⟩ := k_feed_loop (d := d + 19) (x := x) (y := y) (L := L) (n := N) (w := w) (I0 := I) h1 hf hL N2 N 0 I (by omega) ⟨fun _ _ _ => rfl, fun _ _ => rfl, l2, fun _ _ => rfl, fun j hj => by omega, hb⟩
      obtain ⟨a1, a2, a3, a4, a5, a6⟩ := k2
      have e114 : I1 114 = I 114 := a1 114 (by omega) (by omega)
      obtain ⟨I2, r1, r2⟩ := r_feed_loop (d := d + 19) (x := x) (y := y) (L := L) (n := N) (w := w) (I0 := I1) hL N2 N 0 I1 (by omega) ⟨fun _ _ => rfl, fun _ _ _ => rfl, by rw [e114]; exact l3, fun j hj => by omega⟩
      obtain ⟨b1, b2, b3, b4⟩ := r2
      rw [nI_lit0] at k1 r1
      have cσ : ∀ k, k ≠ 5 → (k < 370 + L ∨ 370 + L + N ≤ k) → I2 114 k = I 114 k := fun k p q => by rw [b2 k p q, e114]
      refine Pair.now (v := nI (L + N)) (P := P) (T := T) h h1 (I1 := I1) (I2 := I2) ?_ ?_ (fun r hr => a1 r (by omega) (by omega)) (fun r p _ _ => b1 r p) ?_
      · rw [e_73, ← k1]; simp [s_73, aILoad, aRLoad, aLLoad, aIStore, aRStore, aPush, aBin, aBinL, aShL, aUn, aIf, aIc, aGet, aPut, aIald, aBald, aAald, aIast, aBast, aAast, aAlen, aCopy, aCallV, aCallC, aCallI, aRet, aCat, aMax, aMin, aDiv, aRem, aI2l, aL2i, aNul, aSwS, aSw, aInc, aDup, aDup2, aPop1, aIret, aAret, aVret, aLen, aFk, aFT, Value.category, c_sh, c_f h1, f_sh hf, k_isIn, hn, l2, es, g1]
      · rw [e_131, ← r1]; simp [s_131, aILoad, aRLoad, aLLoad, aIStore, aRStore, aPush, aBin, aBinL, aShL, aUn, aIf, aIc, aGet, aPut, aIald, aBald, aAald, aIast, aBast, aAast, aAlen, aCopy, aCallV, aCallC, aCallI, aRet, aCat, aMax, aMin, aDiv, aRem, aI2l, aL2i, aNul, aSwS, aSw, aInc, aDup, aDup2, aPop1, aIret, aAret, aVret, aLen, aFk, aFT, Value.category, m_sh, m_p, r_in, hn, e114, l3, es, g1]
      · obtain ⟨W, w1, w2, w3, w4⟩ := hW
        refine ⟨hA.1.w (fun r p q _ => a1 r p q) (fun k hk _ => a2 k hk) (fun k p _ q => cσ k p (by omega)), ⟨⟨L + N, hL, a3, b3, fun i hi => ?_⟩, ⟨W, w1, by rw [a2 9 (by omega)]; exact w2, by rw [cσ 6 (by omega) (by omega)]; exact w3, fun i hi => by rw [a1 _ (by omega) (by omega), cσ _ (by omega) (by omega)]; exact w4 i hi⟩, a6⟩, hA.2.2.w hP.1 hP.2 (fun k p _ q => cσ k p (by omega))⟩
        by_cases e : i < L
        · rw [a4 i e, cσ _ (by omega) (by omega)]; exact l4 i e
        · obtain ⟨j, rfl⟩ : ∃ j, i = L + j := ⟨i - L, by omega⟩
          rw [a5 j (by omega), show 370 + (L + j) = 370 + L + j by omega, b4 j (by omega)]
          exact feed_rel w (by omega)
    · have g1 : ¬ nI (L + N) ≤ (60 : Int32) := nI_ge (a := 60) (by omega) (by omega)
      refine Pair.ref 4 (-1000000004) h ?_ (fun I' hI => ?_)
      · rw [e_73]; simp [s_73, aILoad, aRLoad, aLLoad, aIStore, aRStore, aPush, aBin, aBinL, aShL, aUn, aIf, aIc, aGet, aPut, aIald, aBald, aAald, aIast, aBast, aAast, aAlen, aCopy, aCallV, aCallC, aCallI, aRet, aCat, aMax, aMin, aDiv, aRem, aI2l, aL2i, aNul, aSwS, aSw, aInc, aDup, aDup2, aPop1, aIret, aAret, aVret, aLen, aFk, aFT, Value.category, c_sh, c_f h1, f_sh hf, k_isIn, hn, l2, es, g1, rf_4]
      · have l3' : I' 114 5 = nI L := by rw [hI 114 (by decide)]; exact l3
        rw [e_131]; simp [s_131, aILoad, aRLoad, aLLoad, aIStore, aRStore, aPush, aBin, aBinL, aShL, aUn, aIf, aIc, aGet, aPut, aIald, aBald, aAald, aIast, aBast, aAast, aAlen, aCopy, aCallV, aCallC, aCallI, aRet, aCat, aMax, aMin, aDiv, aRem, aI2l, aL2i, aNul, aSwS, aSw, aInc, aDup, aDup2, aPop1, aIret, aAret, aVret, aLen, aFk, aFT, Value.category, m_sh, m_p, r_in, hn, l3', es, g1, re_4]
  · refine Pair.ref 1 (-1000000001) h ?_ (fun I' hI => ?_)
    · rw [e_73]; simp [s_73, aILoad, aRLoad, aLLoad, aIStore, aRStore, aPush, aBin, aBinL, aShL, aUn, aIf, aIc, aGet, aPut, aIald, aBald, aAald, aIast, aBast, aAast, aAlen, aCopy, aCallV, aCallC, aCallI, aRet, aCat, aMax, aMin, aDiv, aRem, aI2l, aL2i, aNul, aSwS, aSw, aInc, aDup, aDup2, aPop1, aIret, aAret, aVret, aLen, aFk, aFT, Value.category, c_sh, k_isIn, hn, rf_1]
    · rw [e_131]; simp [s_131, aILoad, aRLoad, aLLoad, aIStore, aRStore, aPush, aBin, aBinL, aShL, aUn, aIf, aIc, aGet, aPut, aIald, aBald, aAald, aIast, aBast, aAast, aAlen, aCopy, aCallV, aCallC, aCallI, aRet, aCat, aMax, aMin, aDiv, aRem, aI2l, aL2i, aNul, aSwS, aSw, aInc, aDup, aDup2, aPop1, aIret, aAret, aVret, aLen, aFk, aFT, Value.category, m_sh, m_p, r_in, hn, re_1]
end FEED2
